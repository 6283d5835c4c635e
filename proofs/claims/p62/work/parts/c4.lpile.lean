/-! The law's piles: one int[4][4] of five objects from the address B on. -/
def shP (T : Nat → ClassId) (B : Nat) (r : Nat → Int32) (o : Nat) : va_E := if o = 0 then eRef T 3 4 B o 1 else eInt T 4 r
abbrev gWP (D : va_G) (T : Nat → ClassId) (B : Nat) (μ : Mem) : Heap → Prop := gW D vwCl (shP T B) 5 B μ
def PI (n o : Nat) : Prop := o < 5 ∧ ∀ T B r, shP T B r o = eInt T n r
def PG (n k o : Nat) : Prop := o < 5 ∧ (∀ T B r, shP T B r o = eRef T 3 n B o 1) ∧ ∀ j, j < n → PI k (o + 1 + 1 * j)
theorem is_PG : PG 4 4 0 := ⟨by decide, fun T B r => rfl, fun j hj => ⟨by omega, fun T B r => if_neg (by omega)⟩⟩
theorem gA_allP {B : Nat} {X : Nat → Prop} (hX : ∀ o, o < 5 → ¬ X (B + o)) : ∀ o, o < 5 → gA B X (B + o) := fun o ho => ⟨Nat.le_add_right _ _, hX o ho⟩
theorem dL_topple_0 : decode cL_topple 0 = .ok (.iconst 0, 1) := by decide +kernel
theorem dL_topple_1 : decode cL_topple 1 = .ok (.istore_n 3, 1) := by decide +kernel
theorem dL_topple_2 : decode cL_topple 2 = .ok (.aload_n 0, 1) := by decide +kernel
theorem dL_topple_3 : decode cL_topple 3 = .ok (.iload_n 2, 1) := by decide +kernel
theorem dL_topple_4 : decode cL_topple 4 = .ok (.aaload, 1) := by decide +kernel
theorem dL_topple_5 : decode cL_topple 5 = .ok (.iload_n 1, 1) := by decide +kernel
theorem dL_topple_6 : decode cL_topple 6 = .ok (.iaload, 1) := by decide +kernel
theorem dL_topple_7 : decode cL_topple 7 = .ok (.iconst 3, 1) := by decide +kernel
theorem dL_topple_8 : decode cL_topple 8 = .ok (.if_icmp .le 87, 3) := by decide +kernel
theorem dL_topple_11 : decode cL_topple 11 = .ok (.aload_n 0, 1) := by decide +kernel
theorem dL_topple_12 : decode cL_topple 12 = .ok (.iload_n 2, 1) := by decide +kernel
theorem dL_topple_13 : decode cL_topple 13 = .ok (.aaload, 1) := by decide +kernel
theorem dL_topple_14 : decode cL_topple 14 = .ok (.iload_n 1, 1) := by decide +kernel
theorem dL_topple_15 : decode cL_topple 15 = .ok (.dup2, 1) := by decide +kernel
theorem dL_topple_16 : decode cL_topple 16 = .ok (.iaload, 1) := by decide +kernel
theorem dL_topple_17 : decode cL_topple 17 = .ok (.iconst 4, 1) := by decide +kernel
theorem dL_topple_18 : decode cL_topple 18 = .ok (.isub, 1) := by decide +kernel
theorem dL_topple_19 : decode cL_topple 19 = .ok (.iastore, 1) := by decide +kernel
theorem dL_topple_20 : decode cL_topple 20 = .ok (.iinc 3 1, 3) := by decide +kernel
theorem dL_topple_23 : decode cL_topple 23 = .ok (.iconst (-1), 1) := by decide +kernel
theorem dL_topple_24 : decode cL_topple 24 = .ok (.istore 4, 2) := by decide +kernel
theorem dL_topple_26 : decode cL_topple 26 = .ok (.iload 4, 2) := by decide +kernel
theorem dL_topple_28 : decode cL_topple 28 = .ok (.iconst 2, 1) := by decide +kernel
theorem dL_topple_29 : decode cL_topple 29 = .ok (.if_icmp .ge 63, 3) := by decide +kernel
theorem dL_topple_32 : decode cL_topple 32 = .ok (.iload_n 1, 1) := by decide +kernel
theorem dL_topple_33 : decode cL_topple 33 = .ok (.iload 4, 2) := by decide +kernel
theorem dL_topple_35 : decode cL_topple 35 = .ok (.iadd, 1) := by decide +kernel
theorem dL_topple_36 : decode cL_topple 36 = .ok (.ifCond .lt 23, 3) := by decide +kernel
theorem dL_topple_39 : decode cL_topple 39 = .ok (.iload_n 1, 1) := by decide +kernel
theorem dL_topple_40 : decode cL_topple 40 = .ok (.iload 4, 2) := by decide +kernel
theorem dL_topple_42 : decode cL_topple 42 = .ok (.iadd, 1) := by decide +kernel
theorem dL_topple_43 : decode cL_topple 43 = .ok (.iconst 4, 1) := by decide +kernel
theorem dL_topple_44 : decode cL_topple 44 = .ok (.if_icmp .ge 15, 3) := by decide +kernel
theorem dL_topple_47 : decode cL_topple 47 = .ok (.aload_n 0, 1) := by decide +kernel
theorem dL_topple_48 : decode cL_topple 48 = .ok (.iload_n 2, 1) := by decide +kernel
theorem dL_topple_49 : decode cL_topple 49 = .ok (.aaload, 1) := by decide +kernel
theorem dL_topple_50 : decode cL_topple 50 = .ok (.iload_n 1, 1) := by decide +kernel
theorem dL_topple_51 : decode cL_topple 51 = .ok (.iload 4, 2) := by decide +kernel
theorem dL_topple_53 : decode cL_topple 53 = .ok (.iadd, 1) := by decide +kernel
theorem dL_topple_54 : decode cL_topple 54 = .ok (.dup2, 1) := by decide +kernel
theorem dL_topple_55 : decode cL_topple 55 = .ok (.iaload, 1) := by decide +kernel
theorem dL_topple_56 : decode cL_topple 56 = .ok (.iconst 1, 1) := by decide +kernel
theorem dL_topple_57 : decode cL_topple 57 = .ok (.iadd, 1) := by decide +kernel
theorem dL_topple_58 : decode cL_topple 58 = .ok (.iastore, 1) := by decide +kernel
theorem dL_topple_59 : decode cL_topple 59 = .ok (.iload_n 2, 1) := by decide +kernel
theorem dL_topple_60 : decode cL_topple 60 = .ok (.iload 4, 2) := by decide +kernel
theorem dL_topple_62 : decode cL_topple 62 = .ok (.iadd, 1) := by decide +kernel
theorem dL_topple_63 : decode cL_topple 63 = .ok (.ifCond .lt 23, 3) := by decide +kernel
theorem dL_topple_66 : decode cL_topple 66 = .ok (.iload_n 2, 1) := by decide +kernel
theorem dL_topple_67 : decode cL_topple 67 = .ok (.iload 4, 2) := by decide +kernel
theorem dL_topple_69 : decode cL_topple 69 = .ok (.iadd, 1) := by decide +kernel
theorem dL_topple_70 : decode cL_topple 70 = .ok (.iconst 4, 1) := by decide +kernel
theorem dL_topple_71 : decode cL_topple 71 = .ok (.if_icmp .ge 15, 3) := by decide +kernel
theorem dL_topple_74 : decode cL_topple 74 = .ok (.aload_n 0, 1) := by decide +kernel
theorem dL_topple_75 : decode cL_topple 75 = .ok (.iload_n 2, 1) := by decide +kernel
theorem dL_topple_76 : decode cL_topple 76 = .ok (.iload 4, 2) := by decide +kernel
theorem dL_topple_78 : decode cL_topple 78 = .ok (.iadd, 1) := by decide +kernel
theorem dL_topple_79 : decode cL_topple 79 = .ok (.aaload, 1) := by decide +kernel
theorem dL_topple_80 : decode cL_topple 80 = .ok (.iload_n 1, 1) := by decide +kernel
theorem dL_topple_81 : decode cL_topple 81 = .ok (.dup2, 1) := by decide +kernel
theorem dL_topple_82 : decode cL_topple 82 = .ok (.iaload, 1) := by decide +kernel
theorem dL_topple_83 : decode cL_topple 83 = .ok (.iconst 1, 1) := by decide +kernel
theorem dL_topple_84 : decode cL_topple 84 = .ok (.iadd, 1) := by decide +kernel
theorem dL_topple_85 : decode cL_topple 85 = .ok (.iastore, 1) := by decide +kernel
theorem dL_topple_86 : decode cL_topple 86 = .ok (.iinc 4 2, 3) := by decide +kernel
theorem dL_topple_89 : decode cL_topple 89 = .ok (.goto (-63), 3) := by decide +kernel
theorem dL_topple_92 : decode cL_topple 92 = .ok (.goto (-90), 3) := by decide +kernel
theorem dL_topple_95 : decode cL_topple 95 = .ok (.iconst (-1), 1) := by decide +kernel
theorem dL_topple_96 : decode cL_topple 96 = .ok (.istore 4, 2) := by decide +kernel
theorem dL_topple_98 : decode cL_topple 98 = .ok (.iload 4, 2) := by decide +kernel
theorem dL_topple_100 : decode cL_topple 100 = .ok (.iconst 2, 1) := by decide +kernel
theorem dL_topple_101 : decode cL_topple 101 = .ok (.if_icmp .ge 75, 3) := by decide +kernel
theorem dL_topple_104 : decode cL_topple 104 = .ok (.iload_n 3, 1) := by decide +kernel
theorem dL_topple_105 : decode cL_topple 105 = .ok (.ifCond .le 71, 3) := by decide +kernel
theorem dL_topple_108 : decode cL_topple 108 = .ok (.iload_n 3, 1) := by decide +kernel
theorem dL_topple_109 : decode cL_topple 109 = .ok (.iload_n 1, 1) := by decide +kernel
theorem dL_topple_110 : decode cL_topple 110 = .ok (.iload 4, 2) := by decide +kernel
theorem dL_topple_112 : decode cL_topple 112 = .ok (.iadd, 1) := by decide +kernel
theorem dL_topple_113 : decode cL_topple 113 = .ok (.ifCond .lt 23, 3) := by decide +kernel
theorem dL_topple_116 : decode cL_topple 116 = .ok (.iload_n 1, 1) := by decide +kernel
theorem dL_topple_117 : decode cL_topple 117 = .ok (.iload 4, 2) := by decide +kernel
theorem dL_topple_119 : decode cL_topple 119 = .ok (.iadd, 1) := by decide +kernel
theorem dL_topple_120 : decode cL_topple 120 = .ok (.iconst 4, 1) := by decide +kernel
theorem dL_topple_121 : decode cL_topple 121 = .ok (.if_icmp .ge 15, 3) := by decide +kernel
theorem dL_topple_124 : decode cL_topple 124 = .ok (.aload_n 0, 1) := by decide +kernel
theorem dL_topple_125 : decode cL_topple 125 = .ok (.iload_n 1, 1) := by decide +kernel
theorem dL_topple_126 : decode cL_topple 126 = .ok (.iload 4, 2) := by decide +kernel
theorem dL_topple_128 : decode cL_topple 128 = .ok (.iadd, 1) := by decide +kernel
theorem dL_topple_129 : decode cL_topple 129 = .ok (.iload_n 2, 1) := by decide +kernel
theorem dL_topple_130 : decode cL_topple 130 = .ok (.invokestatic 288, 3) := by decide +kernel
theorem dL_topple_133 : decode cL_topple 133 = .ok (.goto 4, 3) := by decide +kernel
theorem dL_topple_136 : decode cL_topple 136 = .ok (.iconst 0, 1) := by decide +kernel
theorem dL_topple_137 : decode cL_topple 137 = .ok (.iadd, 1) := by decide +kernel
theorem dL_topple_138 : decode cL_topple 138 = .ok (.istore_n 3, 1) := by decide +kernel
theorem dL_topple_139 : decode cL_topple 139 = .ok (.iload_n 3, 1) := by decide +kernel
theorem dL_topple_140 : decode cL_topple 140 = .ok (.iload_n 2, 1) := by decide +kernel
theorem dL_topple_141 : decode cL_topple 141 = .ok (.iload 4, 2) := by decide +kernel
theorem dL_topple_143 : decode cL_topple 143 = .ok (.iadd, 1) := by decide +kernel
theorem dL_topple_144 : decode cL_topple 144 = .ok (.ifCond .lt 23, 3) := by decide +kernel
theorem dL_topple_147 : decode cL_topple 147 = .ok (.iload_n 2, 1) := by decide +kernel
theorem dL_topple_148 : decode cL_topple 148 = .ok (.iload 4, 2) := by decide +kernel
theorem dL_topple_150 : decode cL_topple 150 = .ok (.iadd, 1) := by decide +kernel
theorem dL_topple_151 : decode cL_topple 151 = .ok (.iconst 4, 1) := by decide +kernel
theorem dL_topple_152 : decode cL_topple 152 = .ok (.if_icmp .ge 15, 3) := by decide +kernel
theorem dL_topple_155 : decode cL_topple 155 = .ok (.aload_n 0, 1) := by decide +kernel
theorem dL_topple_156 : decode cL_topple 156 = .ok (.iload_n 1, 1) := by decide +kernel
theorem dL_topple_157 : decode cL_topple 157 = .ok (.iload_n 2, 1) := by decide +kernel
theorem dL_topple_158 : decode cL_topple 158 = .ok (.iload 4, 2) := by decide +kernel
theorem dL_topple_160 : decode cL_topple 160 = .ok (.iadd, 1) := by decide +kernel
theorem dL_topple_161 : decode cL_topple 161 = .ok (.invokestatic 288, 3) := by decide +kernel
theorem dL_topple_164 : decode cL_topple 164 = .ok (.goto 4, 3) := by decide +kernel
theorem dL_topple_167 : decode cL_topple 167 = .ok (.iconst 0, 1) := by decide +kernel
theorem dL_topple_168 : decode cL_topple 168 = .ok (.iadd, 1) := by decide +kernel
theorem dL_topple_169 : decode cL_topple 169 = .ok (.istore_n 3, 1) := by decide +kernel
theorem dL_topple_170 : decode cL_topple 170 = .ok (.iinc 4 2, 3) := by decide +kernel
theorem dL_topple_173 : decode cL_topple 173 = .ok (.goto (-75), 3) := by decide +kernel
theorem dL_topple_176 : decode cL_topple 176 = .ok (.iload_n 3, 1) := by decide +kernel
theorem dL_topple_177 : decode cL_topple 177 = .ok (.ireturn, 1) := by decide +kernel
def fL_topple (N : Nat) : Nat → Mem → Nat → Int32 → Int32 → Option (Mem × Int32)
  | 0, _, _, _, _ => none
  | n + 1, μ, a0, a1, a2 =>
  fix2 (fun self3 (x1 : Int32) (μ2 : Mem) =>
  ar 4 a2 fun q5 =>
  ag (μ2 (a0 + 1 + 1 * q5)) 4 a1 fun v9 =>
  if v9 ≤ 3 then
  (fix3 (fun self16 (x13 : Int32) (x14 : Int32) (μ15 : Mem) =>
  jn (fun (u18 : Unit) =>
  some (μ15, x13)) fun j19 =>
  if 2 ≤ x14 then
  (j19 ())
  else (if x13 ≤ 0 then
  (j19 ())
  else (jn (fun (y24 : Int32) (μ25 : Mem) =>
  lt (x13 + y24) fun v29 =>
  jn (fun (y31 : Int32) (μ32 : Mem) =>
  lt (v29 + y31) fun v36 =>
  lt (x14 + 2) fun v38 =>
  self16 v36 v38 μ32) fun j33 =>
  jn (fun (u40 : Unit) =>
  j33 0 μ25) fun j41 =>
  if (a2 + x14) < 0 then
  (j41 ())
  else (if 4 ≤ (a2 + x14) then
  (j41 ())
  else ((fL_topple N n μ25 a0 a1 (a2 + x14)).bind fun r46 =>
  j33 r46.2 r46.1))) fun j26 =>
  jn (fun (u47 : Unit) =>
  j26 0 μ15) fun j48 =>
  if (a1 + x14) < 0 then
  (j48 ())
  else (if 4 ≤ (a1 + x14) then
  (j48 ())
  else ((fL_topple N n μ15 a0 (a1 + x14) a2).bind fun r53 =>
  j26 r53.2 r53.1))))) N x1 (-1) μ2)
  else (ar 4 a2 fun q54 =>
  ag (μ2 (a0 + 1 + 1 * q54)) 4 a1 fun v58 =>
  aw μ2 (a0 + 1 + 1 * q54) 4 a1 (v58 - 4) fun μ61 =>
  lt (x1 + 1) fun v64 =>
  fix2 (fun self68 (x66 : Int32) (μ67 : Mem) =>
  if 2 ≤ x66 then
  (self3 v64 μ67)
  else (jn (fun (μ71 : Mem) =>
  jn (fun (μ75 : Mem) =>
  lt (x66 + 2) fun v79 =>
  self68 v79 μ75) fun j76 =>
  if (a2 + x66) < 0 then
  (j76 μ71)
  else (if 4 ≤ (a2 + x66) then
  (j76 μ71)
  else (ar 4 (a2 + x66) fun q83 =>
  ag (μ71 (a0 + 1 + 1 * q83)) 4 a1 fun v87 =>
  aw μ71 (a0 + 1 + 1 * q83) 4 a1 (v87 + 1) fun μ90 =>
  j76 μ90))) fun j72 =>
  if (a1 + x66) < 0 then
  (j72 μ67)
  else (if 4 ≤ (a1 + x66) then
  (j72 μ67)
  else (ar 4 a2 fun q95 =>
  ag (μ67 (a0 + 1 + 1 * q95)) 4 (a1 + x66) fun v99 =>
  aw μ67 (a0 + 1 + 1 * q95) 4 (a1 + x66) (v99 + 1) fun μ102 =>
  j72 μ102)))) N (-1) μ61)) N 0 μ
abbrev rmL_topple (n : Nat) : Room := { frames := n + 2, cells := 0, slots := 0, locals := 60 * n + 60 }
set_option maxHeartbeats 4000000 in
set_option maxRecDepth 100000 in
theorem metL_topple {l : Launch} {s0 : State} {b B : Nat} {D : va_G} {T : Nat → ClassId} (F : FX l s0 b D T B) {X : Nat → Prop} (hX : ∀ o, o < 5 → ¬ X (B + o)) {N : Nat} : ∀ (n : Nat) {μ : Mem} {a0 : Nat} {a1 : Int32} {a2 : Int32} {r : Mem × Int32} (k0 : (PG 4 4) a0) (h : fL_topple N n μ a0 a1 a2 = some r), gMet l yL_topple cL_topple 5 (some .int) (rmL_topple n) [.ref (B + a0), .int a1, .int a2] (gWP D T B μ) (KC s0 X) (some (.int r.2)) (gWP D T B r.1) (gA B X) 0 0 := by
  intro n
  induction n with
  | zero =>
    intro μ a0 a1 a2 r k0 h
    cases h
  | succ n ih =>
    intro μ a0 a1 a2 r k0 h
    refine gI_of RL (by decide +kernel) rfl (by first | exact Nat.le_of_ble_eq_true rfl | (simp only [rmL_topple]; omega) | (simp only [rmL_topple]; omega)) ?_
    intro p e s m args below meth c ls Q hx hb hlocks hml hown hts hW hk hl hS hend
    have hC := FX_C F hk hx hb hown hts
    have hA := gA_allP hX
    have hl : lv_has ls 5 [(0, .ref (B + a0)), (1, .int a1), (2, .int a2)] := hl
    unfold fL_topple at h
    refine lv_iconst (v := 0) hx hb dL_topple_0 (by decide) ?_
    refine lv_istore_n (lv' := [(3, .int 0), (0, .ref (B + a0)), (1, .int a1), (2, .int a2)]) hx hb dL_topple_1 rfl hl (by decide) rfl (fun ls hl => ?_)
    refine fix2_ind (fun (x1 : Int32) (μ2 : Mem) => ∀ (H : Heap) (locs : List Loc) (ls : Array Slot), gWP D T B μ2 H → va_S (gA B X) s.heap H locs → lv_has ls 5 [(0, .ref (B + a0)), (1, .int a1), (2, .int a2), (3, .int x1)] → W p l e (rmL_topple (n + 1)) s m args below meth c H locs 0 0 Q (F0 m 2 ls [])) ?_ N _ _ h _ _ _ hW hS (lv_sub hl [1, 2, 3, 0] rfl)
    clear h hW hS hl
    intro self3 IH4 x1 μ2 h H locs ls hW hS hl
    refine lv_aload_n hx hb dL_topple_2 rfl (lv_at hl 0 rfl) ?_
    refine lv_iload_n hx hb dL_topple_3 rfl (lv_at hl 2 rfl) ?_
    obtain ⟨q5, e6, hq7, hi8, h⟩ := ar_o h
    refine gq_aald hC hW k0.1 (k0.2.1 T B (μ2 a0)) (t0 := 3) rfl rfl e6 hi8 dL_topple_4 ?_
    refine lv_iload_n hx hb dL_topple_5 rfl (lv_at hl 1 rfl) ?_
    obtain ⟨v9, e10, hi11, h⟩ := ag_o h
    refine gq_iald hC hW (k0.2.2 q5 hq7).1 ((k0.2.2 q5 hq7).2 T B (μ2 (a0 + 1 + 1 * q5))) (t0 := 0) rfl e10 hi11 dL_topple_6 ?_
    refine lv_iconst (v := 3) hx hb dL_topple_7 (by decide) ?_
    refine lv_icmp_le (tgt := 95) hx hb dL_topple_8 (by decide) (fun c12 => ?_) (fun c12 => ?_)
    · replace h := ite_t c12 h
      refine lv_iconst (v := (-1)) hx hb dL_topple_95 (by decide) ?_
      refine lv_istore (lv' := [(4, .int (-1)), (0, .ref (B + a0)), (1, .int a1), (2, .int a2), (3, .int x1)]) hx hb dL_topple_96 hl (by decide) rfl (fun ls hl => ?_)
      refine fix3_ind (fun (x13 : Int32) (x14 : Int32) (μ15 : Mem) => ∀ (H : Heap) (locs : List Loc) (ls : Array Slot), gWP D T B μ15 H → va_S (gA B X) s.heap H locs → lv_has ls 5 [(0, .ref (B + a0)), (1, .int a1), (2, .int a2), (3, .int x13), (4, .int x14)] → W p l e (rmL_topple (n + 1)) s m args below meth c H locs 0 0 Q (F0 m 98 ls [])) ?_ N _ _ _ h _ _ _ hW hS (lv_sub hl [1, 2, 3, 4, 0] rfl)
      clear h hW hS hl
      intro self16 IH17 x13 x14 μ15 h H locs ls hW hS hl
      refine lv_iload hx hb dL_topple_98 (lv_at hl 4 rfl) ?_
      refine lv_iconst (v := 2) hx hb dL_topple_100 (by decide) ?_
      obtain ⟨j19, hj21, h⟩ := jn1_o h
      have J20 : ∀ (u18 : Unit), j19 u18 = some r → ∀ (H : Heap) (locs : List Loc) (ls : Array Slot), gWP D T B μ15 H → va_S (gA B X) s.heap H locs → lv_has ls 5 [(3, .int x13)] → W p l e (rmL_topple (n + 1)) s m args below meth c H locs 0 0 Q (F0 m 176 ls []) := by
        clear h hW hS hl
        intro u18 h H locs ls hW hS hl
        replace h := (hj21 u18).symm.trans h
        refine lv_iload_n hx hb dL_topple_176 rfl (lv_at hl 0 rfl) ?_
        cases h
        exact hend dL_topple_177 hW hS (by first | exact Nat.le_of_ble_eq_true rfl | (simp only [rmL_topple]; omega) | (simp only [rmL_topple]; omega)) (by first | exact Nat.le_of_ble_eq_true rfl | (simp only [rmL_topple]; omega) | (simp only [rmL_topple]; omega))
      refine lv_icmp_ge (tgt := 176) hx hb dL_topple_101 (by decide) (fun c22 => ?_) (fun c22 => ?_)
      · replace h := ite_t c22 h
        exact J20 _ h _ _ _ hW hS (lv_sub hl [3] rfl)
      · replace h := ite_f c22 h
        refine lv_iload_n hx hb dL_topple_104 rfl (lv_at hl 3 rfl) ?_
        refine lv_if_le (tgt := 176) hx hb dL_topple_105 (by decide) (fun c23 => ?_) (fun c23 => ?_)
        · replace h := ite_t c23 h
          exact J20 _ h _ _ _ hW hS (lv_sub hl [3] rfl)
        · replace h := ite_f c23 h
          refine lv_iload_n hx hb dL_topple_108 rfl (lv_at hl 3 rfl) ?_
          refine lv_iload_n hx hb dL_topple_109 rfl (lv_at hl 1 rfl) ?_
          refine lv_iload hx hb dL_topple_110 (lv_at hl 4 rfl) ?_
          refine lv_iadd hx hb dL_topple_112 ?_
          obtain ⟨j26, hj28, h⟩ := jn2_o h
          have J27 : ∀ (y24 : Int32) (μ25 : Mem), j26 y24 μ25 = some r → ∀ (H : Heap) (locs : List Loc) (ls : Array Slot), gWP D T B μ25 H → va_S (gA B X) s.heap H locs → lv_has ls 5 [(0, .ref (B + a0)), (1, .int a1), (2, .int a2), (4, .int x14)] → W p l e (rmL_topple (n + 1)) s m args below meth c H locs 0 0 Q (F0 m 137 ls [.int y24, .int x13]) := by
            clear h hW hS hl
            intro y24 μ25 h H locs ls hW hS hl
            replace h := (hj28 y24 μ25).symm.trans h
            refine lv_iadd hx hb dL_topple_137 ?_
            obtain ⟨v29, e30, h⟩ := lt_out h
            rw [← e30]
            refine lv_istore_n (lv' := [(3, .int v29), (0, .ref (B + a0)), (1, .int a1), (2, .int a2), (4, .int x14)]) hx hb dL_topple_138 rfl hl (by decide) rfl (fun ls hl => ?_)
            refine lv_iload_n hx hb dL_topple_139 rfl (lv_at hl 0 rfl) ?_
            refine lv_iload_n hx hb dL_topple_140 rfl (lv_at hl 3 rfl) ?_
            refine lv_iload hx hb dL_topple_141 (lv_at hl 4 rfl) ?_
            refine lv_iadd hx hb dL_topple_143 ?_
            obtain ⟨j33, hj35, h⟩ := jn2_o h
            have J34 : ∀ (y31 : Int32) (μ32 : Mem), j33 y31 μ32 = some r → ∀ (H : Heap) (locs : List Loc) (ls : Array Slot), gWP D T B μ32 H → va_S (gA B X) s.heap H locs → lv_has ls 5 [(0, .ref (B + a0)), (1, .int a1), (2, .int a2), (4, .int x14)] → W p l e (rmL_topple (n + 1)) s m args below meth c H locs 0 0 Q (F0 m 168 ls [.int y31, .int v29]) := by
              clear h hW hS hl
              intro y31 μ32 h H locs ls hW hS hl
              replace h := (hj35 y31 μ32).symm.trans h
              refine lv_iadd hx hb dL_topple_168 ?_
              obtain ⟨v36, e37, h⟩ := lt_out h
              rw [← e37]
              refine lv_istore_n (lv' := [(3, .int v36), (0, .ref (B + a0)), (1, .int a1), (2, .int a2), (4, .int x14)]) hx hb dL_topple_169 rfl hl (by decide) rfl (fun ls hl => ?_)
              obtain ⟨v38, e39, h⟩ := lt_out h
              refine lv_iinc (v := v38) (lv' := [(4, .int v38), (3, .int v36), (0, .ref (B + a0)), (1, .int a1), (2, .int a2)]) hx hb dL_topple_170 hl (k := 4) rfl (by rw [e39]; rfl) (by decide) rfl (fun ls hl => ?_)
              refine lv_goto (tgt := 98) hx hb dL_topple_173 (by decide) ?_
              exact IH17 _ _ _ h _ _ _ hW hS (lv_sub hl [2, 3, 4, 1, 0] rfl)
            obtain ⟨j41, hj43, h⟩ := jn1_o h
            have J42 : ∀ (u40 : Unit), j41 u40 = some r → ∀ (H : Heap) (locs : List Loc) (ls : Array Slot), gWP D T B μ25 H → va_S (gA B X) s.heap H locs → lv_has ls 5 [(0, .ref (B + a0)), (1, .int a1), (2, .int a2), (4, .int x14)] → W p l e (rmL_topple (n + 1)) s m args below meth c H locs 0 0 Q (F0 m 167 ls [.int v29]) := by
              clear h hW hS hl
              intro u40 h H locs ls hW hS hl
              replace h := (hj43 u40).symm.trans h
              refine lv_iconst (v := 0) hx hb dL_topple_167 (by decide) ?_
              exact J34 _ _ h _ _ _ hW hS (lv_sub hl [0, 1, 2, 3] rfl)
            refine lv_if_lt (tgt := 167) hx hb dL_topple_144 (by decide) (fun c44 => ?_) (fun c44 => ?_)
            · replace h := ite_t c44 h
              exact J42 _ h _ _ _ hW hS (lv_sub hl [1, 2, 3, 4] rfl)
            · replace h := ite_f c44 h
              refine lv_iload_n hx hb dL_topple_147 rfl (lv_at hl 3 rfl) ?_
              refine lv_iload hx hb dL_topple_148 (lv_at hl 4 rfl) ?_
              refine lv_iadd hx hb dL_topple_150 ?_
              refine lv_iconst (v := 4) hx hb dL_topple_151 (by decide) ?_
              refine lv_icmp_ge (tgt := 167) hx hb dL_topple_152 (by decide) (fun c45 => ?_) (fun c45 => ?_)
              · replace h := ite_t c45 h
                exact J42 _ h _ _ _ hW hS (lv_sub hl [1, 2, 3, 4] rfl)
              · replace h := ite_f c45 h
                refine lv_aload_n hx hb dL_topple_155 rfl (lv_at hl 1 rfl) ?_
                refine lv_iload_n hx hb dL_topple_156 rfl (lv_at hl 2 rfl) ?_
                refine lv_iload_n hx hb dL_topple_157 rfl (lv_at hl 3 rfl) ?_
                refine lv_iload hx hb dL_topple_158 (lv_at hl 4 rfl) ?_
                refine lv_iadd hx hb dL_topple_160 ?_
                obtain ⟨r46, hcall, h⟩ := bd_out h
                refine g0_callS (As := [.ref (B + a0), .int a1, .int (a2 + x14)]) hC hml hS hW (KC_at hk hS F.2.2.2.2) KC_blind (ih k0 hcall) ml_L_288 ⟨rfl, rfl, (by first | exact Nat.le_of_ble_eq_true rfl | (simp only [rmL_topple]; omega) | (simp only [rmL_topple]; omega)), (by first | exact Nat.le_of_ble_eq_true rfl | (simp only [rmL_topple]; omega) | (simp only [rmL_topple]; omega))⟩ rfl hl.1 rfl (by first | exact Nat.le_of_ble_eq_true rfl | (simp only [rmL_topple]; omega) | (simp only [rmL_topple]; omega)) dL_topple_161 ⟨(by first | exact Nat.le_of_ble_eq_true rfl | (simp only [rmL_topple]; omega) | (simp only [rmL_topple]; omega)), (by first | exact Nat.le_of_ble_eq_true rfl | (simp only [rmL_topple]; omega) | (simp only [rmL_topple]; omega))⟩ (fun H locs hW hS => ?_)
                refine lv_goto (tgt := 168) hx hb dL_topple_164 (by decide) ?_
                exact J34 _ _ h _ _ _ hW hS (lv_sub hl [1, 2, 3, 4] rfl)
          obtain ⟨j48, hj50, h⟩ := jn1_o h
          have J49 : ∀ (u47 : Unit), j48 u47 = some r → ∀ (H : Heap) (locs : List Loc) (ls : Array Slot), gWP D T B μ15 H → va_S (gA B X) s.heap H locs → lv_has ls 5 [(0, .ref (B + a0)), (1, .int a1), (2, .int a2), (4, .int x14)] → W p l e (rmL_topple (n + 1)) s m args below meth c H locs 0 0 Q (F0 m 136 ls [.int x13]) := by
            clear h hW hS hl
            intro u47 h H locs ls hW hS hl
            replace h := (hj50 u47).symm.trans h
            refine lv_iconst (v := 0) hx hb dL_topple_136 (by decide) ?_
            exact J27 _ _ h _ _ _ hW hS (lv_sub hl [0, 1, 2, 3] rfl)
          refine lv_if_lt (tgt := 136) hx hb dL_topple_113 (by decide) (fun c51 => ?_) (fun c51 => ?_)
          · replace h := ite_t c51 h
            exact J49 _ h _ _ _ hW hS (lv_sub hl [0, 1, 2, 4] rfl)
          · replace h := ite_f c51 h
            refine lv_iload_n hx hb dL_topple_116 rfl (lv_at hl 1 rfl) ?_
            refine lv_iload hx hb dL_topple_117 (lv_at hl 4 rfl) ?_
            refine lv_iadd hx hb dL_topple_119 ?_
            refine lv_iconst (v := 4) hx hb dL_topple_120 (by decide) ?_
            refine lv_icmp_ge (tgt := 136) hx hb dL_topple_121 (by decide) (fun c52 => ?_) (fun c52 => ?_)
            · replace h := ite_t c52 h
              exact J49 _ h _ _ _ hW hS (lv_sub hl [0, 1, 2, 4] rfl)
            · replace h := ite_f c52 h
              refine lv_aload_n hx hb dL_topple_124 rfl (lv_at hl 0 rfl) ?_
              refine lv_iload_n hx hb dL_topple_125 rfl (lv_at hl 1 rfl) ?_
              refine lv_iload hx hb dL_topple_126 (lv_at hl 4 rfl) ?_
              refine lv_iadd hx hb dL_topple_128 ?_
              refine lv_iload_n hx hb dL_topple_129 rfl (lv_at hl 2 rfl) ?_
              obtain ⟨r53, hcall, h⟩ := bd_out h
              refine g0_callS (As := [.ref (B + a0), .int (a1 + x14), .int a2]) hC hml hS hW (KC_at hk hS F.2.2.2.2) KC_blind (ih k0 hcall) ml_L_288 ⟨rfl, rfl, (by first | exact Nat.le_of_ble_eq_true rfl | (simp only [rmL_topple]; omega) | (simp only [rmL_topple]; omega)), (by first | exact Nat.le_of_ble_eq_true rfl | (simp only [rmL_topple]; omega) | (simp only [rmL_topple]; omega))⟩ rfl hl.1 rfl (by first | exact Nat.le_of_ble_eq_true rfl | (simp only [rmL_topple]; omega) | (simp only [rmL_topple]; omega)) dL_topple_130 ⟨(by first | exact Nat.le_of_ble_eq_true rfl | (simp only [rmL_topple]; omega) | (simp only [rmL_topple]; omega)), (by first | exact Nat.le_of_ble_eq_true rfl | (simp only [rmL_topple]; omega) | (simp only [rmL_topple]; omega))⟩ (fun H locs hW hS => ?_)
              refine lv_goto (tgt := 137) hx hb dL_topple_133 (by decide) ?_
              exact J27 _ _ h _ _ _ hW hS (lv_sub hl [0, 1, 2, 4] rfl)
    · replace h := ite_f c12 h
      refine lv_aload_n hx hb dL_topple_11 rfl (lv_at hl 0 rfl) ?_
      refine lv_iload_n hx hb dL_topple_12 rfl (lv_at hl 2 rfl) ?_
      obtain ⟨q54, e55, hq56, hi57, h⟩ := ar_o h
      refine gq_aald hC hW k0.1 (k0.2.1 T B (μ2 a0)) (t0 := 3) rfl rfl e55 hi57 dL_topple_13 ?_
      refine lv_iload_n hx hb dL_topple_14 rfl (lv_at hl 1 rfl) ?_
      refine lv_dup2_11 hx hb dL_topple_15 rfl rfl ?_
      obtain ⟨v58, e59, hi60, h⟩ := ag_o h
      refine gq_iald hC hW (k0.2.2 q54 hq56).1 ((k0.2.2 q54 hq56).2 T B (μ2 (a0 + 1 + 1 * q54))) (t0 := 0) rfl e59 hi60 dL_topple_16 ?_
      refine lv_iconst (v := 4) hx hb dL_topple_17 (by decide) ?_
      refine lv_isub hx hb dL_topple_18 ?_
      obtain ⟨μ61, e62, hi63, h⟩ := aw_o h
      refine gq_iast hC hS hW hA (k0.2.2 q54 hq56).1 ((k0.2.2 q54 hq56).2 T B) (t0 := 0) rfl e62 hi63 dL_topple_19 (fun H locs hW hS => ?_)
      obtain ⟨v64, e65, h⟩ := lt_out h
      refine lv_iinc (v := v64) (lv' := [(3, .int v64), (0, .ref (B + a0)), (1, .int a1), (2, .int a2)]) hx hb dL_topple_20 hl (k := 3) rfl (by rw [e65]; rfl) (by decide) rfl (fun ls hl => ?_)
      refine lv_iconst (v := (-1)) hx hb dL_topple_23 (by decide) ?_
      refine lv_istore (lv' := [(4, .int (-1)), (3, .int v64), (0, .ref (B + a0)), (1, .int a1), (2, .int a2)]) hx hb dL_topple_24 hl (by decide) rfl (fun ls hl => ?_)
      refine fix2_ind (fun (x66 : Int32) (μ67 : Mem) => ∀ (H : Heap) (locs : List Loc) (ls : Array Slot), gWP D T B μ67 H → va_S (gA B X) s.heap H locs → lv_has ls 5 [(0, .ref (B + a0)), (1, .int a1), (2, .int a2), (3, .int v64), (4, .int x66)] → W p l e (rmL_topple (n + 1)) s m args below meth c H locs 0 0 Q (F0 m 26 ls [])) ?_ N _ _ h _ _ _ hW hS (lv_sub hl [2, 3, 4, 1, 0] rfl)
      clear h hW hS hl
      intro self68 IH69 x66 μ67 h H locs ls hW hS hl
      refine lv_iload hx hb dL_topple_26 (lv_at hl 4 rfl) ?_
      refine lv_iconst (v := 2) hx hb dL_topple_28 (by decide) ?_
      refine lv_icmp_ge (tgt := 92) hx hb dL_topple_29 (by decide) (fun c70 => ?_) (fun c70 => ?_)
      · replace h := ite_t c70 h
        refine lv_goto (tgt := 2) hx hb dL_topple_92 (by decide) ?_
        exact IH4 _ _ h _ _ _ hW hS (lv_sub hl [0, 1, 2, 3] rfl)
      · replace h := ite_f c70 h
        refine lv_iload_n hx hb dL_topple_32 rfl (lv_at hl 1 rfl) ?_
        refine lv_iload hx hb dL_topple_33 (lv_at hl 4 rfl) ?_
        refine lv_iadd hx hb dL_topple_35 ?_
        obtain ⟨j72, hj74, h⟩ := jn1_o h
        have J73 : ∀ (μ71 : Mem), j72 μ71 = some r → ∀ (H : Heap) (locs : List Loc) (ls : Array Slot), gWP D T B μ71 H → va_S (gA B X) s.heap H locs → lv_has ls 5 [(0, .ref (B + a0)), (1, .int a1), (2, .int a2), (3, .int v64), (4, .int x66)] → W p l e (rmL_topple (n + 1)) s m args below meth c H locs 0 0 Q (F0 m 59 ls []) := by
          clear h hW hS hl
          intro μ71 h H locs ls hW hS hl
          replace h := (hj74 μ71).symm.trans h
          refine lv_iload_n hx hb dL_topple_59 rfl (lv_at hl 2 rfl) ?_
          refine lv_iload hx hb dL_topple_60 (lv_at hl 4 rfl) ?_
          refine lv_iadd hx hb dL_topple_62 ?_
          obtain ⟨j76, hj78, h⟩ := jn1_o h
          have J77 : ∀ (μ75 : Mem), j76 μ75 = some r → ∀ (H : Heap) (locs : List Loc) (ls : Array Slot), gWP D T B μ75 H → va_S (gA B X) s.heap H locs → lv_has ls 5 [(0, .ref (B + a0)), (1, .int a1), (2, .int a2), (3, .int v64), (4, .int x66)] → W p l e (rmL_topple (n + 1)) s m args below meth c H locs 0 0 Q (F0 m 86 ls []) := by
            clear h hW hS hl
            intro μ75 h H locs ls hW hS hl
            replace h := (hj78 μ75).symm.trans h
            obtain ⟨v79, e80, h⟩ := lt_out h
            refine lv_iinc (v := v79) (lv' := [(4, .int v79), (0, .ref (B + a0)), (1, .int a1), (2, .int a2), (3, .int v64)]) hx hb dL_topple_86 hl (k := 4) rfl (by rw [e80]; rfl) (by decide) rfl (fun ls hl => ?_)
            refine lv_goto (tgt := 26) hx hb dL_topple_89 (by decide) ?_
            exact IH69 _ _ h _ _ _ hW hS (lv_sub hl [1, 2, 3, 4, 0] rfl)
          refine lv_if_lt (tgt := 86) hx hb dL_topple_63 (by decide) (fun c81 => ?_) (fun c81 => ?_)
          · replace h := ite_t c81 h
            exact J77 _ h _ _ _ hW hS (lv_sub hl [0, 1, 2, 3, 4] rfl)
          · replace h := ite_f c81 h
            refine lv_iload_n hx hb dL_topple_66 rfl (lv_at hl 2 rfl) ?_
            refine lv_iload hx hb dL_topple_67 (lv_at hl 4 rfl) ?_
            refine lv_iadd hx hb dL_topple_69 ?_
            refine lv_iconst (v := 4) hx hb dL_topple_70 (by decide) ?_
            refine lv_icmp_ge (tgt := 86) hx hb dL_topple_71 (by decide) (fun c82 => ?_) (fun c82 => ?_)
            · replace h := ite_t c82 h
              exact J77 _ h _ _ _ hW hS (lv_sub hl [0, 1, 2, 3, 4] rfl)
            · replace h := ite_f c82 h
              refine lv_aload_n hx hb dL_topple_74 rfl (lv_at hl 0 rfl) ?_
              refine lv_iload_n hx hb dL_topple_75 rfl (lv_at hl 2 rfl) ?_
              refine lv_iload hx hb dL_topple_76 (lv_at hl 4 rfl) ?_
              refine lv_iadd hx hb dL_topple_78 ?_
              obtain ⟨q83, e84, hq85, hi86, h⟩ := ar_o h
              refine gq_aald hC hW k0.1 (k0.2.1 T B (μ71 a0)) (t0 := 3) rfl rfl e84 hi86 dL_topple_79 ?_
              refine lv_iload_n hx hb dL_topple_80 rfl (lv_at hl 1 rfl) ?_
              refine lv_dup2_11 hx hb dL_topple_81 rfl rfl ?_
              obtain ⟨v87, e88, hi89, h⟩ := ag_o h
              refine gq_iald hC hW (k0.2.2 q83 hq85).1 ((k0.2.2 q83 hq85).2 T B (μ71 (a0 + 1 + 1 * q83))) (t0 := 0) rfl e88 hi89 dL_topple_82 ?_
              refine lv_iconst (v := 1) hx hb dL_topple_83 (by decide) ?_
              refine lv_iadd hx hb dL_topple_84 ?_
              obtain ⟨μ90, e91, hi92, h⟩ := aw_o h
              refine gq_iast hC hS hW hA (k0.2.2 q83 hq85).1 ((k0.2.2 q83 hq85).2 T B) (t0 := 0) rfl e91 hi92 dL_topple_85 (fun H locs hW hS => ?_)
              exact J77 _ h _ _ _ hW hS (lv_sub hl [0, 1, 2, 3, 4] rfl)
        refine lv_if_lt (tgt := 59) hx hb dL_topple_36 (by decide) (fun c93 => ?_) (fun c93 => ?_)
        · replace h := ite_t c93 h
          exact J73 _ h _ _ _ hW hS (lv_sub hl [0, 1, 2, 3, 4] rfl)
        · replace h := ite_f c93 h
          refine lv_iload_n hx hb dL_topple_39 rfl (lv_at hl 1 rfl) ?_
          refine lv_iload hx hb dL_topple_40 (lv_at hl 4 rfl) ?_
          refine lv_iadd hx hb dL_topple_42 ?_
          refine lv_iconst (v := 4) hx hb dL_topple_43 (by decide) ?_
          refine lv_icmp_ge (tgt := 59) hx hb dL_topple_44 (by decide) (fun c94 => ?_) (fun c94 => ?_)
          · replace h := ite_t c94 h
            exact J73 _ h _ _ _ hW hS (lv_sub hl [0, 1, 2, 3, 4] rfl)
          · replace h := ite_f c94 h
            refine lv_aload_n hx hb dL_topple_47 rfl (lv_at hl 0 rfl) ?_
            refine lv_iload_n hx hb dL_topple_48 rfl (lv_at hl 2 rfl) ?_
            obtain ⟨q95, e96, hq97, hi98, h⟩ := ar_o h
            refine gq_aald hC hW k0.1 (k0.2.1 T B (μ67 a0)) (t0 := 3) rfl rfl e96 hi98 dL_topple_49 ?_
            refine lv_iload_n hx hb dL_topple_50 rfl (lv_at hl 1 rfl) ?_
            refine lv_iload hx hb dL_topple_51 (lv_at hl 4 rfl) ?_
            refine lv_iadd hx hb dL_topple_53 ?_
            refine lv_dup2_11 hx hb dL_topple_54 rfl rfl ?_
            obtain ⟨v99, e100, hi101, h⟩ := ag_o h
            refine gq_iald hC hW (k0.2.2 q95 hq97).1 ((k0.2.2 q95 hq97).2 T B (μ67 (a0 + 1 + 1 * q95))) (t0 := 0) rfl e100 hi101 dL_topple_55 ?_
            refine lv_iconst (v := 1) hx hb dL_topple_56 (by decide) ?_
            refine lv_iadd hx hb dL_topple_57 ?_
            obtain ⟨μ102, e103, hi104, h⟩ := aw_o h
            refine gq_iast hC hS hW hA (k0.2.2 q95 hq97).1 ((k0.2.2 q95 hq97).2 T B) (t0 := 0) rfl e103 hi104 dL_topple_58 (fun H locs hW hS => ?_)
            exact J73 _ h _ _ _ hW hS (lv_sub hl [0, 1, 2, 3, 4] rfl)

theorem dL_slopeFrom_0 : decode cL_slopeFrom 0 = .ok (.iconst 0, 1) := by decide +kernel
theorem dL_slopeFrom_1 : decode cL_slopeFrom 1 = .ok (.istore_n 3, 1) := by decide +kernel
theorem dL_slopeFrom_2 : decode cL_slopeFrom 2 = .ok (.iconst (-1), 1) := by decide +kernel
theorem dL_slopeFrom_3 : decode cL_slopeFrom 3 = .ok (.istore 4, 2) := by decide +kernel
theorem dL_slopeFrom_5 : decode cL_slopeFrom 5 = .ok (.iload 4, 2) := by decide +kernel
theorem dL_slopeFrom_7 : decode cL_slopeFrom 7 = .ok (.iconst 2, 1) := by decide +kernel
theorem dL_slopeFrom_8 : decode cL_slopeFrom 8 = .ok (.if_icmp .ge 131, 3) := by decide +kernel
theorem dL_slopeFrom_11 : decode cL_slopeFrom 11 = .ok (.iload_n 1, 1) := by decide +kernel
theorem dL_slopeFrom_12 : decode cL_slopeFrom 12 = .ok (.iload 4, 2) := by decide +kernel
theorem dL_slopeFrom_14 : decode cL_slopeFrom 14 = .ok (.iadd, 1) := by decide +kernel
theorem dL_slopeFrom_15 : decode cL_slopeFrom 15 = .ok (.ifCond .lt 31, 3) := by decide +kernel
theorem dL_slopeFrom_18 : decode cL_slopeFrom 18 = .ok (.iload_n 1, 1) := by decide +kernel
theorem dL_slopeFrom_19 : decode cL_slopeFrom 19 = .ok (.iload 4, 2) := by decide +kernel
theorem dL_slopeFrom_21 : decode cL_slopeFrom 21 = .ok (.iadd, 1) := by decide +kernel
theorem dL_slopeFrom_22 : decode cL_slopeFrom 22 = .ok (.iconst 4, 1) := by decide +kernel
theorem dL_slopeFrom_23 : decode cL_slopeFrom 23 = .ok (.if_icmp .ge 23, 3) := by decide +kernel
theorem dL_slopeFrom_26 : decode cL_slopeFrom 26 = .ok (.aload_n 0, 1) := by decide +kernel
theorem dL_slopeFrom_27 : decode cL_slopeFrom 27 = .ok (.iload_n 2, 1) := by decide +kernel
theorem dL_slopeFrom_28 : decode cL_slopeFrom 28 = .ok (.aaload, 1) := by decide +kernel
theorem dL_slopeFrom_29 : decode cL_slopeFrom 29 = .ok (.iload_n 1, 1) := by decide +kernel
theorem dL_slopeFrom_30 : decode cL_slopeFrom 30 = .ok (.iload 4, 2) := by decide +kernel
theorem dL_slopeFrom_32 : decode cL_slopeFrom 32 = .ok (.iadd, 1) := by decide +kernel
theorem dL_slopeFrom_33 : decode cL_slopeFrom 33 = .ok (.iaload, 1) := by decide +kernel
theorem dL_slopeFrom_34 : decode cL_slopeFrom 34 = .ok (.aload_n 0, 1) := by decide +kernel
theorem dL_slopeFrom_35 : decode cL_slopeFrom 35 = .ok (.iload_n 2, 1) := by decide +kernel
theorem dL_slopeFrom_36 : decode cL_slopeFrom 36 = .ok (.aaload, 1) := by decide +kernel
theorem dL_slopeFrom_37 : decode cL_slopeFrom 37 = .ok (.iload_n 1, 1) := by decide +kernel
theorem dL_slopeFrom_38 : decode cL_slopeFrom 38 = .ok (.iaload, 1) := by decide +kernel
theorem dL_slopeFrom_39 : decode cL_slopeFrom 39 = .ok (.if_icmp .ge 7, 3) := by decide +kernel
theorem dL_slopeFrom_42 : decode cL_slopeFrom 42 = .ok (.iconst 1, 1) := by decide +kernel
theorem dL_slopeFrom_43 : decode cL_slopeFrom 43 = .ok (.goto 4, 3) := by decide +kernel
theorem dL_slopeFrom_46 : decode cL_slopeFrom 46 = .ok (.iconst 0, 1) := by decide +kernel
theorem dL_slopeFrom_47 : decode cL_slopeFrom 47 = .ok (.istore 5, 2) := by decide +kernel
theorem dL_slopeFrom_49 : decode cL_slopeFrom 49 = .ok (.iload_n 2, 1) := by decide +kernel
theorem dL_slopeFrom_50 : decode cL_slopeFrom 50 = .ok (.iload 4, 2) := by decide +kernel
theorem dL_slopeFrom_52 : decode cL_slopeFrom 52 = .ok (.iadd, 1) := by decide +kernel
theorem dL_slopeFrom_53 : decode cL_slopeFrom 53 = .ok (.ifCond .lt 31, 3) := by decide +kernel
theorem dL_slopeFrom_56 : decode cL_slopeFrom 56 = .ok (.iload_n 2, 1) := by decide +kernel
theorem dL_slopeFrom_57 : decode cL_slopeFrom 57 = .ok (.iload 4, 2) := by decide +kernel
theorem dL_slopeFrom_59 : decode cL_slopeFrom 59 = .ok (.iadd, 1) := by decide +kernel
theorem dL_slopeFrom_60 : decode cL_slopeFrom 60 = .ok (.iconst 4, 1) := by decide +kernel
theorem dL_slopeFrom_61 : decode cL_slopeFrom 61 = .ok (.if_icmp .ge 23, 3) := by decide +kernel
theorem dL_slopeFrom_64 : decode cL_slopeFrom 64 = .ok (.aload_n 0, 1) := by decide +kernel
theorem dL_slopeFrom_65 : decode cL_slopeFrom 65 = .ok (.iload_n 2, 1) := by decide +kernel
theorem dL_slopeFrom_66 : decode cL_slopeFrom 66 = .ok (.iload 4, 2) := by decide +kernel
theorem dL_slopeFrom_68 : decode cL_slopeFrom 68 = .ok (.iadd, 1) := by decide +kernel
theorem dL_slopeFrom_69 : decode cL_slopeFrom 69 = .ok (.aaload, 1) := by decide +kernel
theorem dL_slopeFrom_70 : decode cL_slopeFrom 70 = .ok (.iload_n 1, 1) := by decide +kernel
theorem dL_slopeFrom_71 : decode cL_slopeFrom 71 = .ok (.iaload, 1) := by decide +kernel
theorem dL_slopeFrom_72 : decode cL_slopeFrom 72 = .ok (.aload_n 0, 1) := by decide +kernel
theorem dL_slopeFrom_73 : decode cL_slopeFrom 73 = .ok (.iload_n 2, 1) := by decide +kernel
theorem dL_slopeFrom_74 : decode cL_slopeFrom 74 = .ok (.aaload, 1) := by decide +kernel
theorem dL_slopeFrom_75 : decode cL_slopeFrom 75 = .ok (.iload_n 1, 1) := by decide +kernel
theorem dL_slopeFrom_76 : decode cL_slopeFrom 76 = .ok (.iaload, 1) := by decide +kernel
theorem dL_slopeFrom_77 : decode cL_slopeFrom 77 = .ok (.if_icmp .ge 7, 3) := by decide +kernel
theorem dL_slopeFrom_80 : decode cL_slopeFrom 80 = .ok (.iconst 1, 1) := by decide +kernel
theorem dL_slopeFrom_81 : decode cL_slopeFrom 81 = .ok (.goto 4, 3) := by decide +kernel
theorem dL_slopeFrom_84 : decode cL_slopeFrom 84 = .ok (.iconst 0, 1) := by decide +kernel
theorem dL_slopeFrom_85 : decode cL_slopeFrom 85 = .ok (.istore 6, 2) := by decide +kernel
theorem dL_slopeFrom_87 : decode cL_slopeFrom 87 = .ok (.iload 5, 2) := by decide +kernel
theorem dL_slopeFrom_89 : decode cL_slopeFrom 89 = .ok (.ifCond .eq 19, 3) := by decide +kernel
theorem dL_slopeFrom_92 : decode cL_slopeFrom 92 = .ok (.iload_n 3, 1) := by decide +kernel
theorem dL_slopeFrom_93 : decode cL_slopeFrom 93 = .ok (.aload_n 0, 1) := by decide +kernel
theorem dL_slopeFrom_94 : decode cL_slopeFrom 94 = .ok (.iload_n 1, 1) := by decide +kernel
theorem dL_slopeFrom_95 : decode cL_slopeFrom 95 = .ok (.iload 4, 2) := by decide +kernel
theorem dL_slopeFrom_97 : decode cL_slopeFrom 97 = .ok (.iadd, 1) := by decide +kernel
theorem dL_slopeFrom_98 : decode cL_slopeFrom 98 = .ok (.iload_n 2, 1) := by decide +kernel
theorem dL_slopeFrom_99 : decode cL_slopeFrom 99 = .ok (.invokestatic 292, 3) := by decide +kernel
theorem dL_slopeFrom_102 : decode cL_slopeFrom 102 = .ok (.invokestatic 276, 3) := by decide +kernel
theorem dL_slopeFrom_105 : decode cL_slopeFrom 105 = .ok (.goto 4, 3) := by decide +kernel
theorem dL_slopeFrom_108 : decode cL_slopeFrom 108 = .ok (.iload_n 3, 1) := by decide +kernel
theorem dL_slopeFrom_109 : decode cL_slopeFrom 109 = .ok (.istore_n 3, 1) := by decide +kernel
theorem dL_slopeFrom_110 : decode cL_slopeFrom 110 = .ok (.iload 6, 2) := by decide +kernel
theorem dL_slopeFrom_112 : decode cL_slopeFrom 112 = .ok (.ifCond .eq 19, 3) := by decide +kernel
theorem dL_slopeFrom_115 : decode cL_slopeFrom 115 = .ok (.iload_n 3, 1) := by decide +kernel
theorem dL_slopeFrom_116 : decode cL_slopeFrom 116 = .ok (.aload_n 0, 1) := by decide +kernel
theorem dL_slopeFrom_117 : decode cL_slopeFrom 117 = .ok (.iload_n 1, 1) := by decide +kernel
theorem dL_slopeFrom_118 : decode cL_slopeFrom 118 = .ok (.iload_n 2, 1) := by decide +kernel
theorem dL_slopeFrom_119 : decode cL_slopeFrom 119 = .ok (.iload 4, 2) := by decide +kernel
theorem dL_slopeFrom_121 : decode cL_slopeFrom 121 = .ok (.iadd, 1) := by decide +kernel
theorem dL_slopeFrom_122 : decode cL_slopeFrom 122 = .ok (.invokestatic 292, 3) := by decide +kernel
theorem dL_slopeFrom_125 : decode cL_slopeFrom 125 = .ok (.invokestatic 276, 3) := by decide +kernel
theorem dL_slopeFrom_128 : decode cL_slopeFrom 128 = .ok (.goto 4, 3) := by decide +kernel
theorem dL_slopeFrom_131 : decode cL_slopeFrom 131 = .ok (.iload_n 3, 1) := by decide +kernel
theorem dL_slopeFrom_132 : decode cL_slopeFrom 132 = .ok (.istore_n 3, 1) := by decide +kernel
theorem dL_slopeFrom_133 : decode cL_slopeFrom 133 = .ok (.iinc 4 2, 3) := by decide +kernel
theorem dL_slopeFrom_136 : decode cL_slopeFrom 136 = .ok (.goto (-131), 3) := by decide +kernel
theorem dL_slopeFrom_139 : decode cL_slopeFrom 139 = .ok (.iconst 1, 1) := by decide +kernel
theorem dL_slopeFrom_140 : decode cL_slopeFrom 140 = .ok (.iload_n 3, 1) := by decide +kernel
theorem dL_slopeFrom_141 : decode cL_slopeFrom 141 = .ok (.iadd, 1) := by decide +kernel
theorem dL_slopeFrom_142 : decode cL_slopeFrom 142 = .ok (.ireturn, 1) := by decide +kernel
def fL_slopeFrom (N : Nat) : Nat → Mem → Nat → Int32 → Int32 → Option Int32
  | 0, _, _, _, _ => none
  | n + 1, μ, a0, a1, a2 =>
  fix2 (fun self3 (x1 : Int32) (x2 : Int32) =>
  if 2 ≤ x2 then
  (some (1 + x1))
  else (jn (fun (y6 : Bool) =>
  jn (fun (y10 : Bool) =>
  jn (fun (y14 : Int32) =>
  jn (fun (y18 : Int32) =>
  lt (x2 + 2) fun v22 =>
  self3 y18 v22) fun j19 =>
  cond y10
  ((fL_slopeFrom N n μ a0 a1 (a2 + x2)).bind fun r25 =>
  j19 (imax y14 r25))
  (j19 y14)) fun j15 =>
  cond y6
  ((fL_slopeFrom N n μ a0 (a1 + x2) a2).bind fun r27 =>
  j15 (imax x1 r27))
  (j15 x1)) fun j11 =>
  jn (fun (u28 : Unit) =>
  j11 false) fun j29 =>
  if (a2 + x2) < 0 then
  (j29 ())
  else (if 4 ≤ (a2 + x2) then
  (j29 ())
  else (ar 4 (a2 + x2) fun q34 =>
  ag (μ (a0 + 1 + 1 * q34)) 4 a1 fun v38 =>
  ar 4 a2 fun q41 =>
  ag (μ (a0 + 1 + 1 * q41)) 4 a1 fun v45 =>
  if v45 ≤ v38 then
  (j29 ())
  else (j11 true)))) fun j7 =>
  jn (fun (u49 : Unit) =>
  j7 false) fun j50 =>
  if (a1 + x2) < 0 then
  (j50 ())
  else (if 4 ≤ (a1 + x2) then
  (j50 ())
  else (ar 4 a2 fun q55 =>
  ag (μ (a0 + 1 + 1 * q55)) 4 (a1 + x2) fun v59 =>
  ar 4 a2 fun q62 =>
  ag (μ (a0 + 1 + 1 * q62)) 4 a1 fun v66 =>
  if v66 ≤ v59 then
  (j50 ())
  else (j7 true))))) N 0 (-1)
abbrev rmL_slopeFrom (n : Nat) : Room := { frames := n + 2, cells := 0, slots := 0, locals := 60 * n + 60 }
set_option maxHeartbeats 4000000 in
set_option maxRecDepth 100000 in
theorem metL_slopeFrom {l : Launch} {s0 : State} {b B : Nat} {D : va_G} {T : Nat → ClassId} (F : FX l s0 b D T B) {X : Nat → Prop} (hX : ∀ o, o < 5 → ¬ X (B + o)) {N : Nat} : ∀ (n : Nat) {μ : Mem} {a0 : Nat} {a1 : Int32} {a2 : Int32} {r : Int32} (k0 : (PG 4 4) a0) (h : fL_slopeFrom N n μ a0 a1 a2 = some r), gMet l yL_slopeFrom cL_slopeFrom 7 (some .int) (rmL_slopeFrom n) [.ref (B + a0), .int a1, .int a2] (gWP D T B μ) (KC s0 X) (some (.int r)) (gWP D T B μ) (gA B X) 0 0 := by
  intro n
  induction n with
  | zero =>
    intro μ a0 a1 a2 r k0 h
    cases h
  | succ n ih =>
    intro μ a0 a1 a2 r k0 h
    refine gI_of RL (by decide +kernel) rfl (by first | exact Nat.le_of_ble_eq_true rfl | (simp only [rmL_slopeFrom]; omega) | (simp only [rmL_slopeFrom]; omega)) ?_
    intro p e s m args below meth c ls Q hx hb hlocks hml hown hts hW hk hl hS hend
    have hC := FX_C F hk hx hb hown hts
    have hA := gA_allP hX
    have hl : lv_has ls 7 [(0, .ref (B + a0)), (1, .int a1), (2, .int a2)] := hl
    unfold fL_slopeFrom at h
    refine lv_iconst (v := 0) hx hb dL_slopeFrom_0 (by decide) ?_
    refine lv_istore_n (lv' := [(3, .int 0), (0, .ref (B + a0)), (1, .int a1), (2, .int a2)]) hx hb dL_slopeFrom_1 rfl hl (by decide) rfl (fun ls hl => ?_)
    refine lv_iconst (v := (-1)) hx hb dL_slopeFrom_2 (by decide) ?_
    refine lv_istore (lv' := [(4, .int (-1)), (3, .int 0), (0, .ref (B + a0)), (1, .int a1), (2, .int a2)]) hx hb dL_slopeFrom_3 hl (by decide) rfl (fun ls hl => ?_)
    refine fix2_ind (fun (x1 : Int32) (x2 : Int32) => ∀ (H : Heap) (locs : List Loc) (ls : Array Slot), gWP D T B μ H → va_S (gA B X) s.heap H locs → lv_has ls 7 [(0, .ref (B + a0)), (1, .int a1), (2, .int a2), (3, .int x1), (4, .int x2)] → W p l e (rmL_slopeFrom (n + 1)) s m args below meth c H locs 0 0 Q (F0 m 5 ls [])) ?_ N _ _ h _ _ _ hW hS (lv_sub hl [2, 3, 4, 1, 0] rfl)
    clear h hW hS hl
    intro self3 IH4 x1 x2 h H locs ls hW hS hl
    refine lv_iload hx hb dL_slopeFrom_5 (lv_at hl 4 rfl) ?_
    refine lv_iconst (v := 2) hx hb dL_slopeFrom_7 (by decide) ?_
    refine lv_icmp_ge (tgt := 139) hx hb dL_slopeFrom_8 (by decide) (fun c5 => ?_) (fun c5 => ?_)
    · replace h := ite_t c5 h
      refine lv_iconst (v := 1) hx hb dL_slopeFrom_139 (by decide) ?_
      refine lv_iload_n hx hb dL_slopeFrom_140 rfl (lv_at hl 3 rfl) ?_
      refine lv_iadd hx hb dL_slopeFrom_141 ?_
      cases h
      exact hend dL_slopeFrom_142 hW hS (by first | exact Nat.le_of_ble_eq_true rfl | (simp only [rmL_slopeFrom]; omega) | (simp only [rmL_slopeFrom]; omega)) (by first | exact Nat.le_of_ble_eq_true rfl | (simp only [rmL_slopeFrom]; omega) | (simp only [rmL_slopeFrom]; omega))
    · replace h := ite_f c5 h
      refine lv_iload_n hx hb dL_slopeFrom_11 rfl (lv_at hl 1 rfl) ?_
      refine lv_iload hx hb dL_slopeFrom_12 (lv_at hl 4 rfl) ?_
      refine lv_iadd hx hb dL_slopeFrom_14 ?_
      obtain ⟨j7, hj9, h⟩ := jn1_o h
      have J8 : ∀ (y6 : Bool), j7 y6 = some r → ∀ (H : Heap) (locs : List Loc) (ls : Array Slot), gWP D T B μ H → va_S (gA B X) s.heap H locs → lv_has ls 7 [(0, .ref (B + a0)), (1, .int a1), (2, .int a2), (3, .int x1), (4, .int x2)] → W p l e (rmL_slopeFrom (n + 1)) s m args below meth c H locs 0 0 Q (F0 m 47 ls [.int (b2i y6)]) := by
        clear h hW hS hl
        intro y6 h H locs ls hW hS hl
        replace h := (hj9 y6).symm.trans h
        refine lv_istore (lv' := [(5, .int (b2i y6)), (0, .ref (B + a0)), (1, .int a1), (2, .int a2), (3, .int x1), (4, .int x2)]) hx hb dL_slopeFrom_47 hl (by decide) rfl (fun ls hl => ?_)
        refine lv_iload_n hx hb dL_slopeFrom_49 rfl (lv_at hl 3 rfl) ?_
        refine lv_iload hx hb dL_slopeFrom_50 (lv_at hl 5 rfl) ?_
        refine lv_iadd hx hb dL_slopeFrom_52 ?_
        obtain ⟨j11, hj13, h⟩ := jn1_o h
        have J12 : ∀ (y10 : Bool), j11 y10 = some r → ∀ (H : Heap) (locs : List Loc) (ls : Array Slot), gWP D T B μ H → va_S (gA B X) s.heap H locs → lv_has ls 7 [(0, .ref (B + a0)), (1, .int a1), (2, .int a2), (3, .int x1), (4, .int x2), (5, .int (b2i y6))] → W p l e (rmL_slopeFrom (n + 1)) s m args below meth c H locs 0 0 Q (F0 m 85 ls [.int (b2i y10)]) := by
          clear h hW hS hl
          intro y10 h H locs ls hW hS hl
          replace h := (hj13 y10).symm.trans h
          refine lv_istore (lv' := [(6, .int (b2i y10)), (0, .ref (B + a0)), (1, .int a1), (2, .int a2), (3, .int x1), (4, .int x2), (5, .int (b2i y6))]) hx hb dL_slopeFrom_85 hl (by decide) rfl (fun ls hl => ?_)
          refine lv_iload hx hb dL_slopeFrom_87 (lv_at hl 6 rfl) ?_
          obtain ⟨j15, hj17, h⟩ := jn1_o h
          have J16 : ∀ (y14 : Int32), j15 y14 = some r → ∀ (H : Heap) (locs : List Loc) (ls : Array Slot), gWP D T B μ H → va_S (gA B X) s.heap H locs → lv_has ls 7 [(0, .ref (B + a0)), (1, .int a1), (2, .int a2), (4, .int x2), (6, .int (b2i y10))] → W p l e (rmL_slopeFrom (n + 1)) s m args below meth c H locs 0 0 Q (F0 m 109 ls [.int y14]) := by
            clear h hW hS hl
            intro y14 h H locs ls hW hS hl
            replace h := (hj17 y14).symm.trans h
            refine lv_istore_n (lv' := [(3, .int y14), (0, .ref (B + a0)), (1, .int a1), (2, .int a2), (4, .int x2), (6, .int (b2i y10))]) hx hb dL_slopeFrom_109 rfl hl (by decide) rfl (fun ls hl => ?_)
            refine lv_iload hx hb dL_slopeFrom_110 (lv_at hl 5 rfl) ?_
            obtain ⟨j19, hj21, h⟩ := jn1_o h
            have J20 : ∀ (y18 : Int32), j19 y18 = some r → ∀ (H : Heap) (locs : List Loc) (ls : Array Slot), gWP D T B μ H → va_S (gA B X) s.heap H locs → lv_has ls 7 [(0, .ref (B + a0)), (1, .int a1), (2, .int a2), (4, .int x2)] → W p l e (rmL_slopeFrom (n + 1)) s m args below meth c H locs 0 0 Q (F0 m 132 ls [.int y18]) := by
              clear h hW hS hl
              intro y18 h H locs ls hW hS hl
              replace h := (hj21 y18).symm.trans h
              refine lv_istore_n (lv' := [(3, .int y18), (0, .ref (B + a0)), (1, .int a1), (2, .int a2), (4, .int x2)]) hx hb dL_slopeFrom_132 rfl hl (by decide) rfl (fun ls hl => ?_)
              obtain ⟨v22, e23, h⟩ := lt_out h
              refine lv_iinc (v := v22) (lv' := [(4, .int v22), (3, .int y18), (0, .ref (B + a0)), (1, .int a1), (2, .int a2)]) hx hb dL_slopeFrom_133 hl (k := 4) rfl (by rw [e23]; rfl) (by decide) rfl (fun ls hl => ?_)
              refine lv_goto (tgt := 5) hx hb dL_slopeFrom_136 (by decide) ?_
              exact IH4 _ _ h _ _ _ hW hS (lv_sub hl [2, 3, 4, 1, 0] rfl)
            refine gw_if_eqZ (tgt := 131) hx hb dL_slopeFrom_112 (by decide) (fun c24 => ?_) (fun c24 => ?_)
            · replace h := cond_f c24 h
              refine lv_iload_n hx hb dL_slopeFrom_131 rfl (lv_at hl 0 rfl) ?_
              exact J20 _ h _ _ _ hW hS (lv_sub hl [1, 2, 3, 4] rfl)
            · replace h := cond_t c24 h
              refine lv_iload_n hx hb dL_slopeFrom_115 rfl (lv_at hl 0 rfl) ?_
              refine lv_aload_n hx hb dL_slopeFrom_116 rfl (lv_at hl 1 rfl) ?_
              refine lv_iload_n hx hb dL_slopeFrom_117 rfl (lv_at hl 2 rfl) ?_
              refine lv_iload_n hx hb dL_slopeFrom_118 rfl (lv_at hl 3 rfl) ?_
              refine lv_iload hx hb dL_slopeFrom_119 (lv_at hl 4 rfl) ?_
              refine lv_iadd hx hb dL_slopeFrom_121 ?_
              obtain ⟨r25, hcall, h⟩ := bd_out h
              refine g0_callS (As := [.ref (B + a0), .int a1, .int (a2 + x2)]) hC hml hS hW (KC_at hk hS F.2.2.2.2) KC_blind (ih k0 hcall) ml_L_292 ⟨rfl, rfl, (by first | exact Nat.le_of_ble_eq_true rfl | (simp only [rmL_slopeFrom]; omega) | (simp only [rmL_slopeFrom]; omega)), (by first | exact Nat.le_of_ble_eq_true rfl | (simp only [rmL_slopeFrom]; omega) | (simp only [rmL_slopeFrom]; omega))⟩ rfl hl.1 rfl (by first | exact Nat.le_of_ble_eq_true rfl | (simp only [rmL_slopeFrom]; omega) | (simp only [rmL_slopeFrom]; omega)) dL_slopeFrom_122 ⟨(by first | exact Nat.le_of_ble_eq_true rfl | (simp only [rmL_slopeFrom]; omega) | (simp only [rmL_slopeFrom]; omega)), (by first | exact Nat.le_of_ble_eq_true rfl | (simp only [rmL_slopeFrom]; omega) | (simp only [rmL_slopeFrom]; omega))⟩ (fun H locs hW hS => ?_)
              refine gw_max hC (hml.trans hl.1.symm) lm_L_276 lb_max.1 lb_max.2.1 lb_max.2.2 (by first | exact Nat.le_of_ble_eq_true rfl | (simp only [rmL_slopeFrom]; omega) | (simp only [rmL_slopeFrom]; omega)) (by first | exact Nat.le_of_ble_eq_true rfl | (simp only [rmL_slopeFrom]; omega) | (simp only [rmL_slopeFrom]; omega)) (by first | exact Nat.le_of_ble_eq_true rfl | (simp only [rmL_slopeFrom]; omega) | (simp only [rmL_slopeFrom]; omega)) (by first | exact Nat.le_of_ble_eq_true rfl | (simp only [rmL_slopeFrom]; omega) | (simp only [rmL_slopeFrom]; omega)) dL_slopeFrom_125 ?_
              refine lv_goto (tgt := 132) hx hb dL_slopeFrom_128 (by decide) ?_
              exact J20 _ h _ _ _ hW hS (lv_sub hl [1, 2, 3, 4] rfl)
          refine gw_if_eqZ (tgt := 108) hx hb dL_slopeFrom_89 (by decide) (fun c26 => ?_) (fun c26 => ?_)
          · replace h := cond_f c26 h
            refine lv_iload_n hx hb dL_slopeFrom_108 rfl (lv_at hl 4 rfl) ?_
            exact J16 _ h _ _ _ hW hS (lv_sub hl [1, 2, 3, 5, 0] rfl)
          · replace h := cond_t c26 h
            refine lv_iload_n hx hb dL_slopeFrom_92 rfl (lv_at hl 4 rfl) ?_
            refine lv_aload_n hx hb dL_slopeFrom_93 rfl (lv_at hl 1 rfl) ?_
            refine lv_iload_n hx hb dL_slopeFrom_94 rfl (lv_at hl 2 rfl) ?_
            refine lv_iload hx hb dL_slopeFrom_95 (lv_at hl 5 rfl) ?_
            refine lv_iadd hx hb dL_slopeFrom_97 ?_
            refine lv_iload_n hx hb dL_slopeFrom_98 rfl (lv_at hl 3 rfl) ?_
            obtain ⟨r27, hcall, h⟩ := bd_out h
            refine g0_callS (As := [.ref (B + a0), .int (a1 + x2), .int a2]) hC hml hS hW (KC_at hk hS F.2.2.2.2) KC_blind (ih k0 hcall) ml_L_292 ⟨rfl, rfl, (by first | exact Nat.le_of_ble_eq_true rfl | (simp only [rmL_slopeFrom]; omega) | (simp only [rmL_slopeFrom]; omega)), (by first | exact Nat.le_of_ble_eq_true rfl | (simp only [rmL_slopeFrom]; omega) | (simp only [rmL_slopeFrom]; omega))⟩ rfl hl.1 rfl (by first | exact Nat.le_of_ble_eq_true rfl | (simp only [rmL_slopeFrom]; omega) | (simp only [rmL_slopeFrom]; omega)) dL_slopeFrom_99 ⟨(by first | exact Nat.le_of_ble_eq_true rfl | (simp only [rmL_slopeFrom]; omega) | (simp only [rmL_slopeFrom]; omega)), (by first | exact Nat.le_of_ble_eq_true rfl | (simp only [rmL_slopeFrom]; omega) | (simp only [rmL_slopeFrom]; omega))⟩ (fun H locs hW hS => ?_)
            refine gw_max hC (hml.trans hl.1.symm) lm_L_276 lb_max.1 lb_max.2.1 lb_max.2.2 (by first | exact Nat.le_of_ble_eq_true rfl | (simp only [rmL_slopeFrom]; omega) | (simp only [rmL_slopeFrom]; omega)) (by first | exact Nat.le_of_ble_eq_true rfl | (simp only [rmL_slopeFrom]; omega) | (simp only [rmL_slopeFrom]; omega)) (by first | exact Nat.le_of_ble_eq_true rfl | (simp only [rmL_slopeFrom]; omega) | (simp only [rmL_slopeFrom]; omega)) (by first | exact Nat.le_of_ble_eq_true rfl | (simp only [rmL_slopeFrom]; omega) | (simp only [rmL_slopeFrom]; omega)) dL_slopeFrom_102 ?_
            refine lv_goto (tgt := 109) hx hb dL_slopeFrom_105 (by decide) ?_
            exact J16 _ h _ _ _ hW hS (lv_sub hl [1, 2, 3, 5, 0] rfl)
        obtain ⟨j29, hj31, h⟩ := jn1_o h
        have J30 : ∀ (u28 : Unit), j29 u28 = some r → ∀ (H : Heap) (locs : List Loc) (ls : Array Slot), gWP D T B μ H → va_S (gA B X) s.heap H locs → lv_has ls 7 [(0, .ref (B + a0)), (1, .int a1), (2, .int a2), (3, .int x1), (4, .int x2), (5, .int (b2i y6))] → W p l e (rmL_slopeFrom (n + 1)) s m args below meth c H locs 0 0 Q (F0 m 84 ls []) := by
          clear h hW hS hl
          intro u28 h H locs ls hW hS hl
          replace h := (hj31 u28).symm.trans h
          refine lv_iconst (v := 0) hx hb dL_slopeFrom_84 (by decide) ?_
          exact J12 _ h _ _ _ hW hS (lv_sub hl [0, 1, 2, 3, 4, 5] rfl)
        refine lv_if_lt (tgt := 84) hx hb dL_slopeFrom_53 (by decide) (fun c32 => ?_) (fun c32 => ?_)
        · replace h := ite_t c32 h
          exact J30 _ h _ _ _ hW hS (lv_sub hl [1, 2, 3, 4, 5, 0] rfl)
        · replace h := ite_f c32 h
          refine lv_iload_n hx hb dL_slopeFrom_56 rfl (lv_at hl 3 rfl) ?_
          refine lv_iload hx hb dL_slopeFrom_57 (lv_at hl 5 rfl) ?_
          refine lv_iadd hx hb dL_slopeFrom_59 ?_
          refine lv_iconst (v := 4) hx hb dL_slopeFrom_60 (by decide) ?_
          refine lv_icmp_ge (tgt := 84) hx hb dL_slopeFrom_61 (by decide) (fun c33 => ?_) (fun c33 => ?_)
          · replace h := ite_t c33 h
            exact J30 _ h _ _ _ hW hS (lv_sub hl [1, 2, 3, 4, 5, 0] rfl)
          · replace h := ite_f c33 h
            refine lv_aload_n hx hb dL_slopeFrom_64 rfl (lv_at hl 1 rfl) ?_
            refine lv_iload_n hx hb dL_slopeFrom_65 rfl (lv_at hl 3 rfl) ?_
            refine lv_iload hx hb dL_slopeFrom_66 (lv_at hl 5 rfl) ?_
            refine lv_iadd hx hb dL_slopeFrom_68 ?_
            obtain ⟨q34, e35, hq36, hi37, h⟩ := ar_o h
            refine gq_aald hC hW k0.1 (k0.2.1 T B (μ a0)) (t0 := 3) rfl rfl e35 hi37 dL_slopeFrom_69 ?_
            refine lv_iload_n hx hb dL_slopeFrom_70 rfl (lv_at hl 2 rfl) ?_
            obtain ⟨v38, e39, hi40, h⟩ := ag_o h
            refine gq_iald hC hW (k0.2.2 q34 hq36).1 ((k0.2.2 q34 hq36).2 T B (μ (a0 + 1 + 1 * q34))) (t0 := 0) rfl e39 hi40 dL_slopeFrom_71 ?_
            refine lv_aload_n hx hb dL_slopeFrom_72 rfl (lv_at hl 1 rfl) ?_
            refine lv_iload_n hx hb dL_slopeFrom_73 rfl (lv_at hl 3 rfl) ?_
            obtain ⟨q41, e42, hq43, hi44, h⟩ := ar_o h
            refine gq_aald hC hW k0.1 (k0.2.1 T B (μ a0)) (t0 := 3) rfl rfl e42 hi44 dL_slopeFrom_74 ?_
            refine lv_iload_n hx hb dL_slopeFrom_75 rfl (lv_at hl 2 rfl) ?_
            obtain ⟨v45, e46, hi47, h⟩ := ag_o h
            refine gq_iald hC hW (k0.2.2 q41 hq43).1 ((k0.2.2 q41 hq43).2 T B (μ (a0 + 1 + 1 * q41))) (t0 := 0) rfl e46 hi47 dL_slopeFrom_76 ?_
            refine lv_icmp_ge (tgt := 84) hx hb dL_slopeFrom_77 (by decide) (fun c48 => ?_) (fun c48 => ?_)
            · replace h := ite_t c48 h
              exact J30 _ h _ _ _ hW hS (lv_sub hl [1, 2, 3, 4, 5, 0] rfl)
            · replace h := ite_f c48 h
              refine lv_iconst (v := 1) hx hb dL_slopeFrom_80 (by decide) ?_
              refine lv_goto (tgt := 85) hx hb dL_slopeFrom_81 (by decide) ?_
              exact J12 _ h _ _ _ hW hS (lv_sub hl [1, 2, 3, 4, 5, 0] rfl)
      obtain ⟨j50, hj52, h⟩ := jn1_o h
      have J51 : ∀ (u49 : Unit), j50 u49 = some r → ∀ (H : Heap) (locs : List Loc) (ls : Array Slot), gWP D T B μ H → va_S (gA B X) s.heap H locs → lv_has ls 7 [(0, .ref (B + a0)), (1, .int a1), (2, .int a2), (3, .int x1), (4, .int x2)] → W p l e (rmL_slopeFrom (n + 1)) s m args below meth c H locs 0 0 Q (F0 m 46 ls []) := by
        clear h hW hS hl
        intro u49 h H locs ls hW hS hl
        replace h := (hj52 u49).symm.trans h
        refine lv_iconst (v := 0) hx hb dL_slopeFrom_46 (by decide) ?_
        exact J8 _ h _ _ _ hW hS (lv_sub hl [0, 1, 2, 3, 4] rfl)
      refine lv_if_lt (tgt := 46) hx hb dL_slopeFrom_15 (by decide) (fun c53 => ?_) (fun c53 => ?_)
      · replace h := ite_t c53 h
        exact J51 _ h _ _ _ hW hS (lv_sub hl [0, 1, 2, 3, 4] rfl)
      · replace h := ite_f c53 h
        refine lv_iload_n hx hb dL_slopeFrom_18 rfl (lv_at hl 1 rfl) ?_
        refine lv_iload hx hb dL_slopeFrom_19 (lv_at hl 4 rfl) ?_
        refine lv_iadd hx hb dL_slopeFrom_21 ?_
        refine lv_iconst (v := 4) hx hb dL_slopeFrom_22 (by decide) ?_
        refine lv_icmp_ge (tgt := 46) hx hb dL_slopeFrom_23 (by decide) (fun c54 => ?_) (fun c54 => ?_)
        · replace h := ite_t c54 h
          exact J51 _ h _ _ _ hW hS (lv_sub hl [0, 1, 2, 3, 4] rfl)
        · replace h := ite_f c54 h
          refine lv_aload_n hx hb dL_slopeFrom_26 rfl (lv_at hl 0 rfl) ?_
          refine lv_iload_n hx hb dL_slopeFrom_27 rfl (lv_at hl 2 rfl) ?_
          obtain ⟨q55, e56, hq57, hi58, h⟩ := ar_o h
          refine gq_aald hC hW k0.1 (k0.2.1 T B (μ a0)) (t0 := 3) rfl rfl e56 hi58 dL_slopeFrom_28 ?_
          refine lv_iload_n hx hb dL_slopeFrom_29 rfl (lv_at hl 1 rfl) ?_
          refine lv_iload hx hb dL_slopeFrom_30 (lv_at hl 4 rfl) ?_
          refine lv_iadd hx hb dL_slopeFrom_32 ?_
          obtain ⟨v59, e60, hi61, h⟩ := ag_o h
          refine gq_iald hC hW (k0.2.2 q55 hq57).1 ((k0.2.2 q55 hq57).2 T B (μ (a0 + 1 + 1 * q55))) (t0 := 0) rfl e60 hi61 dL_slopeFrom_33 ?_
          refine lv_aload_n hx hb dL_slopeFrom_34 rfl (lv_at hl 0 rfl) ?_
          refine lv_iload_n hx hb dL_slopeFrom_35 rfl (lv_at hl 2 rfl) ?_
          obtain ⟨q62, e63, hq64, hi65, h⟩ := ar_o h
          refine gq_aald hC hW k0.1 (k0.2.1 T B (μ a0)) (t0 := 3) rfl rfl e63 hi65 dL_slopeFrom_36 ?_
          refine lv_iload_n hx hb dL_slopeFrom_37 rfl (lv_at hl 1 rfl) ?_
          obtain ⟨v66, e67, hi68, h⟩ := ag_o h
          refine gq_iald hC hW (k0.2.2 q62 hq64).1 ((k0.2.2 q62 hq64).2 T B (μ (a0 + 1 + 1 * q62))) (t0 := 0) rfl e67 hi68 dL_slopeFrom_38 ?_
          refine lv_icmp_ge (tgt := 46) hx hb dL_slopeFrom_39 (by decide) (fun c69 => ?_) (fun c69 => ?_)
          · replace h := ite_t c69 h
            exact J51 _ h _ _ _ hW hS (lv_sub hl [0, 1, 2, 3, 4] rfl)
          · replace h := ite_f c69 h
            refine lv_iconst (v := 1) hx hb dL_slopeFrom_42 (by decide) ?_
            refine lv_goto (tgt := 47) hx hb dL_slopeFrom_43 (by decide) ?_
            exact J8 _ h _ _ _ hW hS (lv_sub hl [0, 1, 2, 3, 4] rfl)

theorem dL_neighbours_0 : decode cL_neighbours 0 = .ok (.iload_n 0, 1) := by decide +kernel
theorem dL_neighbours_1 : decode cL_neighbours 1 = .ok (.ifCond .le 7, 3) := by decide +kernel
theorem dL_neighbours_4 : decode cL_neighbours 4 = .ok (.iconst 1, 1) := by decide +kernel
theorem dL_neighbours_5 : decode cL_neighbours 5 = .ok (.goto 4, 3) := by decide +kernel
theorem dL_neighbours_8 : decode cL_neighbours 8 = .ok (.iconst 0, 1) := by decide +kernel
theorem dL_neighbours_9 : decode cL_neighbours 9 = .ok (.iload_n 0, 1) := by decide +kernel
theorem dL_neighbours_10 : decode cL_neighbours 10 = .ok (.iconst 3, 1) := by decide +kernel
theorem dL_neighbours_11 : decode cL_neighbours 11 = .ok (.if_icmp .ge 7, 3) := by decide +kernel
theorem dL_neighbours_14 : decode cL_neighbours 14 = .ok (.iconst 1, 1) := by decide +kernel
theorem dL_neighbours_15 : decode cL_neighbours 15 = .ok (.goto 4, 3) := by decide +kernel
theorem dL_neighbours_18 : decode cL_neighbours 18 = .ok (.iconst 0, 1) := by decide +kernel
theorem dL_neighbours_19 : decode cL_neighbours 19 = .ok (.iadd, 1) := by decide +kernel
theorem dL_neighbours_20 : decode cL_neighbours 20 = .ok (.iload_n 1, 1) := by decide +kernel
theorem dL_neighbours_21 : decode cL_neighbours 21 = .ok (.ifCond .le 7, 3) := by decide +kernel
theorem dL_neighbours_24 : decode cL_neighbours 24 = .ok (.iconst 1, 1) := by decide +kernel
theorem dL_neighbours_25 : decode cL_neighbours 25 = .ok (.goto 4, 3) := by decide +kernel
theorem dL_neighbours_28 : decode cL_neighbours 28 = .ok (.iconst 0, 1) := by decide +kernel
theorem dL_neighbours_29 : decode cL_neighbours 29 = .ok (.iadd, 1) := by decide +kernel
theorem dL_neighbours_30 : decode cL_neighbours 30 = .ok (.iload_n 1, 1) := by decide +kernel
theorem dL_neighbours_31 : decode cL_neighbours 31 = .ok (.iconst 3, 1) := by decide +kernel
theorem dL_neighbours_32 : decode cL_neighbours 32 = .ok (.if_icmp .ge 7, 3) := by decide +kernel
theorem dL_neighbours_35 : decode cL_neighbours 35 = .ok (.iconst 1, 1) := by decide +kernel
theorem dL_neighbours_36 : decode cL_neighbours 36 = .ok (.goto 4, 3) := by decide +kernel
theorem dL_neighbours_39 : decode cL_neighbours 39 = .ok (.iconst 0, 1) := by decide +kernel
theorem dL_neighbours_40 : decode cL_neighbours 40 = .ok (.iadd, 1) := by decide +kernel
theorem dL_neighbours_41 : decode cL_neighbours 41 = .ok (.ireturn, 1) := by decide +kernel
noncomputable def fL_neighbours (N : Nat) (K : Nat) (a0 : Int32) (a1 : Int32) : Option Int32 :=
  jn (fun (y1 : Bool) (κ2 : Nat) =>
  jn (fun (y6 : Bool) (κ7 : Nat) =>
  jn (fun (y11 : Bool) (κ12 : Nat) =>
  jn (fun (y16 : Bool) (κ17 : Nat) =>
  gd (κ17 ≤ K) <|
  some ((((b2i y1) + (b2i y6)) + (b2i y11)) + (b2i y16))) fun j18 =>
  if 3 ≤ a1 then
  (j18 false κ12)
  else (j18 true κ12)) fun j13 =>
  if a1 ≤ 0 then
  (j13 false κ7)
  else (j13 true κ7)) fun j8 =>
  if 3 ≤ a0 then
  (j8 false κ2)
  else (j8 true κ2)) fun j3 =>
  if a0 ≤ 0 then
  (j3 false 0)
  else (j3 true 0)
abbrev rmL_neighbours (K : Nat) : Room := { frames := 2, cells := K, slots := 6 * K, locals := 60 }
set_option maxHeartbeats 4000000 in
set_option maxRecDepth 100000 in
theorem metL_neighbours {l : Launch} {s0 : State} {b B : Nat} {D : va_G} {T : Nat → ClassId} (F : FX l s0 b D T B) {X : Nat → Prop} (hX : ∀ o, o < 561 → ¬ X (B + o)) {N : Nat} (hN : 1200000000000 ≤ N) {Wp : Heap → Prop} {K : Nat} {a0 : Int32} {a1 : Int32} {r : Int32} (h : fL_neighbours N K a0 a1 = some r) : gMet l yL_neighbours cL_neighbours 2 (some .int) (rmL_neighbours K) [.int a0, .int a1] (Wp) (KC s0 X) (some (.int r)) (Wp) (gA B X) K (6 * K) := by
  refine gI_of RL (by decide +kernel) rfl (Nat.le_of_ble_eq_true rfl) ?_
  intro p e s m args below meth c ls Q hx hb hlocks hml hown hts hW hk hl hS hend
  have hC := FX_C F hk hx hb hown hts
  have hl : lv_has ls 2 [(0, .int a0), (1, .int a1)] := hl
  unfold fL_neighbours at h
  refine lv_iload_n hx hb dL_neighbours_0 rfl (lv_at hl 0 rfl) ?_
  obtain ⟨j3, hj5, h⟩ := jn2_o h
  have J4 : ∀ (y1 : Bool) (κ2 : Nat), j3 y1 κ2 = some r → ∀ (H : Heap) (locs : List Loc) (ls : Array Slot), Wp H → va_S (gA B X) s.heap H locs → lv_has ls 2 [(0, .int a0), (1, .int a1)] → W p l e (rmL_neighbours K) s m args below meth c H locs κ2 (6 * κ2) Q (F0 m 9 ls [.int (b2i y1)]) := by
    clear h hW hS hl
    intro y1 κ2 h H locs ls hW hS hl
    replace h := (hj5 y1 κ2).symm.trans h
    refine lv_iload_n hx hb dL_neighbours_9 rfl (lv_at hl 0 rfl) ?_
    refine lv_iconst (v := 3) hx hb dL_neighbours_10 (by decide) ?_
    obtain ⟨j8, hj10, h⟩ := jn2_o h
    have J9 : ∀ (y6 : Bool) (κ7 : Nat), j8 y6 κ7 = some r → ∀ (H : Heap) (locs : List Loc) (ls : Array Slot), Wp H → va_S (gA B X) s.heap H locs → lv_has ls 2 [(1, .int a1)] → W p l e (rmL_neighbours K) s m args below meth c H locs κ7 (6 * κ7) Q (F0 m 19 ls [.int (b2i y6), .int (b2i y1)]) := by
      clear h hW hS hl
      intro y6 κ7 h H locs ls hW hS hl
      replace h := (hj10 y6 κ7).symm.trans h
      refine lv_iadd hx hb dL_neighbours_19 ?_
      refine lv_iload_n hx hb dL_neighbours_20 rfl (lv_at hl 0 rfl) ?_
      obtain ⟨j13, hj15, h⟩ := jn2_o h
      have J14 : ∀ (y11 : Bool) (κ12 : Nat), j13 y11 κ12 = some r → ∀ (H : Heap) (locs : List Loc) (ls : Array Slot), Wp H → va_S (gA B X) s.heap H locs → lv_has ls 2 [(1, .int a1)] → W p l e (rmL_neighbours K) s m args below meth c H locs κ12 (6 * κ12) Q (F0 m 29 ls [.int (b2i y11), .int ((b2i y1) + (b2i y6))]) := by
        clear h hW hS hl
        intro y11 κ12 h H locs ls hW hS hl
        replace h := (hj15 y11 κ12).symm.trans h
        refine lv_iadd hx hb dL_neighbours_29 ?_
        refine lv_iload_n hx hb dL_neighbours_30 rfl (lv_at hl 0 rfl) ?_
        refine lv_iconst (v := 3) hx hb dL_neighbours_31 (by decide) ?_
        obtain ⟨j18, hj20, h⟩ := jn2_o h
        have J19 : ∀ (y16 : Bool) (κ17 : Nat), j18 y16 κ17 = some r → ∀ (H : Heap) (locs : List Loc) (ls : Array Slot), Wp H → va_S (gA B X) s.heap H locs → lv_has ls 2 [] → W p l e (rmL_neighbours K) s m args below meth c H locs κ17 (6 * κ17) Q (F0 m 40 ls [.int (b2i y16), .int (((b2i y1) + (b2i y6)) + (b2i y11))]) := by
          clear h hW hS hl
          intro y16 κ17 h H locs ls hW hS hl
          replace h := (hj20 y16 κ17).symm.trans h
          refine lv_iadd hx hb dL_neighbours_40 ?_
          obtain ⟨g21, h⟩ := gd_out h
          cases h
          exact hend dL_neighbours_41 hW hS (by omega) (by omega)
        refine lv_icmp_ge (tgt := 39) hx hb dL_neighbours_32 (by decide) (fun c22 => ?_) (fun c22 => ?_)
        · replace h := ite_t c22 h
          refine lv_iconst (v := 0) hx hb dL_neighbours_39 (by decide) ?_
          refine W.widen (k := κ12) (n := 6 * κ12) (by omega) (by omega) ?_
          exact J19 _ _ h _ _ _ hW hS (lv_sub hl [] rfl)
        · replace h := ite_f c22 h
          refine lv_iconst (v := 1) hx hb dL_neighbours_35 (by decide) ?_
          refine lv_goto (tgt := 40) hx hb dL_neighbours_36 (by decide) ?_
          refine W.widen (k := κ12) (n := 6 * κ12) (by omega) (by omega) ?_
          exact J19 _ _ h _ _ _ hW hS (lv_sub hl [] rfl)
      refine lv_if_le (tgt := 28) hx hb dL_neighbours_21 (by decide) (fun c23 => ?_) (fun c23 => ?_)
      · replace h := ite_t c23 h
        refine lv_iconst (v := 0) hx hb dL_neighbours_28 (by decide) ?_
        refine W.widen (k := κ7) (n := 6 * κ7) (by omega) (by omega) ?_
        exact J14 _ _ h _ _ _ hW hS (lv_sub hl [0] rfl)
      · replace h := ite_f c23 h
        refine lv_iconst (v := 1) hx hb dL_neighbours_24 (by decide) ?_
        refine lv_goto (tgt := 29) hx hb dL_neighbours_25 (by decide) ?_
        refine W.widen (k := κ7) (n := 6 * κ7) (by omega) (by omega) ?_
        exact J14 _ _ h _ _ _ hW hS (lv_sub hl [0] rfl)
    refine lv_icmp_ge (tgt := 18) hx hb dL_neighbours_11 (by decide) (fun c24 => ?_) (fun c24 => ?_)
    · replace h := ite_t c24 h
      refine lv_iconst (v := 0) hx hb dL_neighbours_18 (by decide) ?_
      refine W.widen (k := κ2) (n := 6 * κ2) (by omega) (by omega) ?_
      exact J9 _ _ h _ _ _ hW hS (lv_sub hl [1] rfl)
    · replace h := ite_f c24 h
      refine lv_iconst (v := 1) hx hb dL_neighbours_14 (by decide) ?_
      refine lv_goto (tgt := 19) hx hb dL_neighbours_15 (by decide) ?_
      refine W.widen (k := κ2) (n := 6 * κ2) (by omega) (by omega) ?_
      exact J9 _ _ h _ _ _ hW hS (lv_sub hl [1] rfl)
  refine lv_if_le (tgt := 8) hx hb dL_neighbours_1 (by decide) (fun c25 => ?_) (fun c25 => ?_)
  · replace h := ite_t c25 h
    refine lv_iconst (v := 0) hx hb dL_neighbours_8 (by decide) ?_
    refine W.widen (k := 0) (n := 6 * 0) (by omega) (by omega) ?_
    exact J4 _ _ h _ _ _ hW hS (lv_sub hl [0, 1] rfl)
  · replace h := ite_f c25 h
    refine lv_iconst (v := 1) hx hb dL_neighbours_4 (by decide) ?_
    refine lv_goto (tgt := 9) hx hb dL_neighbours_5 (by decide) ?_
    refine W.widen (k := 0) (n := 6 * 0) (by omega) (by omega) ?_
    exact J4 _ _ h _ _ _ hW hS (lv_sub hl [0, 1] rfl)

