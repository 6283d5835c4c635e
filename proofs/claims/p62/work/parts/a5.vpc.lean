theorem vpc_int {c : ClassId} {n : Nat} : vp_cell c (n, .inl (fun _ => 0)) = arrV c n (fun _ => defaultValue .int) := rfl
theorem vpc_char {c : ClassId} {n : Nat} : vp_cell c (n, .inl (fun _ => 0)) = arrV c n (fun _ => defaultValue .char) := rfl
theorem vpc_byte {c : ClassId} {n : Nat} : vp_cell c (n, .inl (fun _ => 0)) = arrV c n (fun _ => defaultValue .byte) := rfl
