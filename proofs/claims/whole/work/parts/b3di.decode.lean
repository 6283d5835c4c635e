/-! Printed: the law's body, decoded, 9. -/
theorem dL_law_3305 : decode cL_law 3305 = .ok (.aload_n 2, 1) := by decide +kernel
theorem dL_law_3306 : decode cL_law 3306 = .ok (.aload_n 0, 1) := by decide +kernel
theorem dL_law_3307 : decode cL_law 3307 = .ok (.iload 5, 2) := by decide +kernel
theorem dL_law_3309 : decode cL_law 3309 = .ok (.iconst 1, 1) := by decide +kernel
theorem dL_law_3310 : decode cL_law 3310 = .ok (.iadd, 1) := by decide +kernel
theorem dL_law_3311 : decode cL_law 3311 = .ok (.iaload, 1) := by decide +kernel
theorem dL_law_3312 : decode cL_law 3312 = .ok (.invokevirtual 356, 3) := by decide +kernel
theorem dL_law_3315 : decode cL_law 3315 = .ok (.istore 7, 2) := by decide +kernel
theorem dL_law_3317 : decode cL_law 3317 = .ok (.aload_n 2, 1) := by decide +kernel
theorem dL_law_3318 : decode cL_law 3318 = .ok (.invokevirtual 198, 3) := by decide +kernel
theorem dL_law_3321 : decode cL_law 3321 = .ok (.iload 6, 2) := by decide +kernel
theorem dL_law_3323 : decode cL_law 3323 = .ok (.if_icmp .eq 5, 3) := by decide +kernel
theorem dL_law_3328 : decode cL_law 3328 = .ok (.iload 6, 2) := by decide +kernel
theorem dL_law_3330 : decode cL_law 3330 = .ok (.ifCond .ne 15, 3) := by decide +kernel
theorem dL_law_3333 : decode cL_law 3333 = .ok (.aload_n 3, 1) := by decide +kernel
theorem dL_law_3334 : decode cL_law 3334 = .ok (.iconst 0, 1) := by decide +kernel
theorem dL_law_3335 : decode cL_law 3335 = .ok (.laload, 1) := by decide +kernel
theorem dL_law_3336 : decode cL_law 3336 = .ok (.iload 7, 2) := by decide +kernel
theorem dL_law_3338 : decode cL_law 3338 = .ok (.i2l, 1) := by decide +kernel
theorem dL_law_3339 : decode cL_law 3339 = .ok (.lcmp, 1) := by decide +kernel
theorem dL_law_3340 : decode cL_law 3340 = .ok (.ifCond .eq 5, 3) := by decide +kernel
theorem dL_law_3345 : decode cL_law 3345 = .ok (.goto 320, 3) := by decide +kernel
theorem dL_law_3348 : decode cL_law 3348 = .ok (.aload_n 1, 1) := by decide +kernel
theorem dL_law_3349 : decode cL_law 3349 = .ok (.invokevirtual 357, 3) := by decide +kernel
theorem dL_law_3352 : decode cL_law 3352 = .ok (.aload_n 2, 1) := by decide +kernel
theorem dL_law_3353 : decode cL_law 3353 = .ok (.invokevirtual 361, 3) := by decide +kernel
theorem dL_law_3356 : decode cL_law 3356 = .ok (.if_icmp .eq 309, 3) := by decide +kernel
theorem dL_law_3361 : decode cL_law 3361 = .ok (.aload_n 1, 1) := by decide +kernel
theorem dL_law_3362 : decode cL_law 3362 = .ok (.aload_n 0, 1) := by decide +kernel
theorem dL_law_3363 : decode cL_law 3363 = .ok (.iload 5, 2) := by decide +kernel
theorem dL_law_3365 : decode cL_law 3365 = .ok (.iconst 1, 1) := by decide +kernel
theorem dL_law_3366 : decode cL_law 3366 = .ok (.iadd, 1) := by decide +kernel
theorem dL_law_3367 : decode cL_law 3367 = .ok (.iaload, 1) := by decide +kernel
theorem dL_law_3368 : decode cL_law 3368 = .ok (.i2c, 1) := by decide +kernel
theorem dL_law_3369 : decode cL_law 3369 = .ok (.aload_n 3, 1) := by decide +kernel
theorem dL_law_3370 : decode cL_law 3370 = .ok (.invokestatic 362, 3) := by decide +kernel
theorem dL_law_3373 : decode cL_law 3373 = .ok (.istore 6, 2) := by decide +kernel
theorem dL_law_3375 : decode cL_law 3375 = .ok (.aload_n 2, 1) := by decide +kernel
theorem dL_law_3376 : decode cL_law 3376 = .ok (.aload_n 0, 1) := by decide +kernel
theorem dL_law_3377 : decode cL_law 3377 = .ok (.iload 5, 2) := by decide +kernel
theorem dL_law_3379 : decode cL_law 3379 = .ok (.iconst 1, 1) := by decide +kernel
theorem dL_law_3380 : decode cL_law 3380 = .ok (.iadd, 1) := by decide +kernel
theorem dL_law_3381 : decode cL_law 3381 = .ok (.iaload, 1) := by decide +kernel
theorem dL_law_3382 : decode cL_law 3382 = .ok (.i2c, 1) := by decide +kernel
theorem dL_law_3383 : decode cL_law 3383 = .ok (.invokevirtual 365, 3) := by decide +kernel
theorem dL_law_3386 : decode cL_law 3386 = .ok (.istore 7, 2) := by decide +kernel
theorem dL_law_3388 : decode cL_law 3388 = .ok (.aload_n 2, 1) := by decide +kernel
theorem dL_law_3389 : decode cL_law 3389 = .ok (.invokevirtual 198, 3) := by decide +kernel
theorem dL_law_3392 : decode cL_law 3392 = .ok (.iload 6, 2) := by decide +kernel
theorem dL_law_3394 : decode cL_law 3394 = .ok (.if_icmp .eq 5, 3) := by decide +kernel
theorem dL_law_3399 : decode cL_law 3399 = .ok (.iload 6, 2) := by decide +kernel
theorem dL_law_3401 : decode cL_law 3401 = .ok (.ifCond .ne 15, 3) := by decide +kernel
theorem dL_law_3404 : decode cL_law 3404 = .ok (.aload_n 3, 1) := by decide +kernel
theorem dL_law_3405 : decode cL_law 3405 = .ok (.iconst 0, 1) := by decide +kernel
theorem dL_law_3406 : decode cL_law 3406 = .ok (.laload, 1) := by decide +kernel
theorem dL_law_3407 : decode cL_law 3407 = .ok (.iload 7, 2) := by decide +kernel
theorem dL_law_3409 : decode cL_law 3409 = .ok (.i2l, 1) := by decide +kernel
theorem dL_law_3410 : decode cL_law 3410 = .ok (.lcmp, 1) := by decide +kernel
theorem dL_law_3411 : decode cL_law 3411 = .ok (.ifCond .eq 5, 3) := by decide +kernel
theorem dL_law_3416 : decode cL_law 3416 = .ok (.goto 249, 3) := by decide +kernel
theorem dL_law_3419 : decode cL_law 3419 = .ok (.aload_n 1, 1) := by decide +kernel
theorem dL_law_3420 : decode cL_law 3420 = .ok (.aload_n 3, 1) := by decide +kernel
theorem dL_law_3421 : decode cL_law 3421 = .ok (.invokestatic 366, 3) := by decide +kernel
theorem dL_law_3424 : decode cL_law 3424 = .ok (.istore 6, 2) := by decide +kernel
theorem dL_law_3426 : decode cL_law 3426 = .ok (.aload_n 2, 1) := by decide +kernel
theorem dL_law_3427 : decode cL_law 3427 = .ok (.invokevirtual 368, 3) := by decide +kernel
theorem dL_law_3430 : decode cL_law 3430 = .ok (.istore 7, 2) := by decide +kernel
theorem dL_law_3432 : decode cL_law 3432 = .ok (.aload_n 2, 1) := by decide +kernel
theorem dL_law_3433 : decode cL_law 3433 = .ok (.invokevirtual 198, 3) := by decide +kernel
theorem dL_law_3436 : decode cL_law 3436 = .ok (.iload 6, 2) := by decide +kernel
theorem dL_law_3438 : decode cL_law 3438 = .ok (.if_icmp .eq 5, 3) := by decide +kernel
theorem dL_law_3443 : decode cL_law 3443 = .ok (.iload 6, 2) := by decide +kernel
theorem dL_law_3445 : decode cL_law 3445 = .ok (.ifCond .ne 15, 3) := by decide +kernel
theorem dL_law_3448 : decode cL_law 3448 = .ok (.aload_n 3, 1) := by decide +kernel
theorem dL_law_3449 : decode cL_law 3449 = .ok (.iconst 0, 1) := by decide +kernel
theorem dL_law_3450 : decode cL_law 3450 = .ok (.laload, 1) := by decide +kernel
theorem dL_law_3451 : decode cL_law 3451 = .ok (.iload 7, 2) := by decide +kernel
theorem dL_law_3453 : decode cL_law 3453 = .ok (.i2l, 1) := by decide +kernel
theorem dL_law_3454 : decode cL_law 3454 = .ok (.lcmp, 1) := by decide +kernel
theorem dL_law_3455 : decode cL_law 3455 = .ok (.ifCond .eq 5, 3) := by decide +kernel
theorem dL_law_3460 : decode cL_law 3460 = .ok (.goto 205, 3) := by decide +kernel
theorem dL_law_3463 : decode cL_law 3463 = .ok (.aload_n 1, 1) := by decide +kernel
theorem dL_law_3464 : decode cL_law 3464 = .ok (.aload_n 3, 1) := by decide +kernel
theorem dL_law_3465 : decode cL_law 3465 = .ok (.invokestatic 369, 3) := by decide +kernel
theorem dL_law_3468 : decode cL_law 3468 = .ok (.istore 6, 2) := by decide +kernel
theorem dL_law_3470 : decode cL_law 3470 = .ok (.aload_n 2, 1) := by decide +kernel
theorem dL_law_3471 : decode cL_law 3471 = .ok (.invokevirtual 371, 3) := by decide +kernel
theorem dL_law_3474 : decode cL_law 3474 = .ok (.istore 7, 2) := by decide +kernel
theorem dL_law_3476 : decode cL_law 3476 = .ok (.aload_n 2, 1) := by decide +kernel
theorem dL_law_3477 : decode cL_law 3477 = .ok (.invokevirtual 198, 3) := by decide +kernel
theorem dL_law_3480 : decode cL_law 3480 = .ok (.iload 6, 2) := by decide +kernel
theorem dL_law_3482 : decode cL_law 3482 = .ok (.if_icmp .eq 5, 3) := by decide +kernel
theorem dL_law_3487 : decode cL_law 3487 = .ok (.iload 6, 2) := by decide +kernel
theorem dL_law_3489 : decode cL_law 3489 = .ok (.ifCond .ne 15, 3) := by decide +kernel
theorem dL_law_3492 : decode cL_law 3492 = .ok (.aload_n 3, 1) := by decide +kernel
theorem dL_law_3493 : decode cL_law 3493 = .ok (.iconst 0, 1) := by decide +kernel
theorem dL_law_3494 : decode cL_law 3494 = .ok (.laload, 1) := by decide +kernel
theorem dL_law_3495 : decode cL_law 3495 = .ok (.iload 7, 2) := by decide +kernel
theorem dL_law_3497 : decode cL_law 3497 = .ok (.i2l, 1) := by decide +kernel
theorem dL_law_3498 : decode cL_law 3498 = .ok (.lcmp, 1) := by decide +kernel
theorem dL_law_3499 : decode cL_law 3499 = .ok (.ifCond .eq 5, 3) := by decide +kernel
theorem dL_law_3504 : decode cL_law 3504 = .ok (.goto 161, 3) := by decide +kernel
theorem dL_law_3507 : decode cL_law 3507 = .ok (.aload_n 1, 1) := by decide +kernel
theorem dL_law_3508 : decode cL_law 3508 = .ok (.aload_n 3, 1) := by decide +kernel
theorem dL_law_3509 : decode cL_law 3509 = .ok (.invokestatic 372, 3) := by decide +kernel
theorem dL_law_3512 : decode cL_law 3512 = .ok (.istore 6, 2) := by decide +kernel
theorem dL_law_3514 : decode cL_law 3514 = .ok (.aload_n 2, 1) := by decide +kernel
theorem dL_law_3515 : decode cL_law 3515 = .ok (.invokevirtual 374, 3) := by decide +kernel
theorem dL_law_3518 : decode cL_law 3518 = .ok (.istore 7, 2) := by decide +kernel
theorem dL_law_3520 : decode cL_law 3520 = .ok (.aload_n 2, 1) := by decide +kernel
theorem dL_law_3521 : decode cL_law 3521 = .ok (.invokevirtual 198, 3) := by decide +kernel
theorem dL_law_3524 : decode cL_law 3524 = .ok (.iload 6, 2) := by decide +kernel
theorem dL_law_3526 : decode cL_law 3526 = .ok (.if_icmp .eq 5, 3) := by decide +kernel
theorem dL_law_3531 : decode cL_law 3531 = .ok (.iload 6, 2) := by decide +kernel
theorem dL_law_3533 : decode cL_law 3533 = .ok (.ifCond .ne 15, 3) := by decide +kernel
theorem dL_law_3536 : decode cL_law 3536 = .ok (.aload_n 3, 1) := by decide +kernel
theorem dL_law_3537 : decode cL_law 3537 = .ok (.iconst 0, 1) := by decide +kernel
theorem dL_law_3538 : decode cL_law 3538 = .ok (.laload, 1) := by decide +kernel
theorem dL_law_3539 : decode cL_law 3539 = .ok (.iload 7, 2) := by decide +kernel
theorem dL_law_3541 : decode cL_law 3541 = .ok (.i2l, 1) := by decide +kernel
theorem dL_law_3542 : decode cL_law 3542 = .ok (.lcmp, 1) := by decide +kernel
theorem dL_law_3543 : decode cL_law 3543 = .ok (.ifCond .eq 5, 3) := by decide +kernel
theorem dL_law_3548 : decode cL_law 3548 = .ok (.goto 117, 3) := by decide +kernel
theorem dL_law_3551 : decode cL_law 3551 = .ok (.aload_n 1, 1) := by decide +kernel
theorem dL_law_3552 : decode cL_law 3552 = .ok (.aload_n 3, 1) := by decide +kernel
theorem dL_law_3553 : decode cL_law 3553 = .ok (.invokestatic 375, 3) := by decide +kernel
theorem dL_law_3556 : decode cL_law 3556 = .ok (.istore 6, 2) := by decide +kernel
theorem dL_law_3558 : decode cL_law 3558 = .ok (.aload_n 2, 1) := by decide +kernel
theorem dL_law_3559 : decode cL_law 3559 = .ok (.invokevirtual 377, 3) := by decide +kernel
theorem dL_law_3562 : decode cL_law 3562 = .ok (.istore 7, 2) := by decide +kernel
theorem dL_law_3564 : decode cL_law 3564 = .ok (.aload_n 2, 1) := by decide +kernel
theorem dL_law_3565 : decode cL_law 3565 = .ok (.invokevirtual 198, 3) := by decide +kernel
theorem dL_law_3568 : decode cL_law 3568 = .ok (.iload 6, 2) := by decide +kernel
theorem dL_law_3570 : decode cL_law 3570 = .ok (.if_icmp .eq 5, 3) := by decide +kernel
theorem dL_law_3575 : decode cL_law 3575 = .ok (.iload 6, 2) := by decide +kernel
theorem dL_law_3577 : decode cL_law 3577 = .ok (.ifCond .ne 15, 3) := by decide +kernel
theorem dL_law_3580 : decode cL_law 3580 = .ok (.aload_n 3, 1) := by decide +kernel
theorem dL_law_3581 : decode cL_law 3581 = .ok (.iconst 0, 1) := by decide +kernel
theorem dL_law_3582 : decode cL_law 3582 = .ok (.laload, 1) := by decide +kernel
theorem dL_law_3583 : decode cL_law 3583 = .ok (.iload 7, 2) := by decide +kernel
theorem dL_law_3585 : decode cL_law 3585 = .ok (.i2l, 1) := by decide +kernel
theorem dL_law_3586 : decode cL_law 3586 = .ok (.lcmp, 1) := by decide +kernel
theorem dL_law_3587 : decode cL_law 3587 = .ok (.ifCond .eq 5, 3) := by decide +kernel
theorem dL_law_3592 : decode cL_law 3592 = .ok (.goto 73, 3) := by decide +kernel
theorem dL_law_3595 : decode cL_law 3595 = .ok (.aload_n 1, 1) := by decide +kernel
theorem dL_law_3596 : decode cL_law 3596 = .ok (.invokevirtual 378, 3) := by decide +kernel
theorem dL_law_3599 : decode cL_law 3599 = .ok (.aload_n 2, 1) := by decide +kernel
theorem dL_law_3600 : decode cL_law 3600 = .ok (.invokevirtual 381, 3) := by decide +kernel
theorem dL_law_3603 : decode cL_law 3603 = .ok (.if_icmp .eq 62, 3) := by decide +kernel
theorem dL_law_3608 : decode cL_law 3608 = .ok (.aload_n 1, 1) := by decide +kernel
theorem dL_law_3609 : decode cL_law 3609 = .ok (.invokevirtual 382, 3) := by decide +kernel
theorem dL_law_3612 : decode cL_law 3612 = .ok (.aload_n 2, 1) := by decide +kernel
theorem dL_law_3613 : decode cL_law 3613 = .ok (.invokevirtual 385, 3) := by decide +kernel
theorem dL_law_3616 : decode cL_law 3616 = .ok (.if_icmp .eq 49, 3) := by decide +kernel
theorem dL_law_3621 : decode cL_law 3621 = .ok (.aload_n 1, 1) := by decide +kernel
theorem dL_law_3622 : decode cL_law 3622 = .ok (.aload_n 3, 1) := by decide +kernel
theorem dL_law_3623 : decode cL_law 3623 = .ok (.invokestatic 386, 3) := by decide +kernel
theorem dL_law_3626 : decode cL_law 3626 = .ok (.istore 6, 2) := by decide +kernel
theorem dL_law_3628 : decode cL_law 3628 = .ok (.aload_n 2, 1) := by decide +kernel
theorem dL_law_3629 : decode cL_law 3629 = .ok (.invokevirtual 388, 3) := by decide +kernel
theorem dL_law_3632 : decode cL_law 3632 = .ok (.istore 7, 2) := by decide +kernel
theorem dL_law_3634 : decode cL_law 3634 = .ok (.aload_n 2, 1) := by decide +kernel
theorem dL_law_3635 : decode cL_law 3635 = .ok (.invokevirtual 198, 3) := by decide +kernel
theorem dL_law_3638 : decode cL_law 3638 = .ok (.iload 6, 2) := by decide +kernel
theorem dL_law_3640 : decode cL_law 3640 = .ok (.if_icmp .eq 5, 3) := by decide +kernel
theorem dL_law_3645 : decode cL_law 3645 = .ok (.iload 6, 2) := by decide +kernel
theorem dL_law_3647 : decode cL_law 3647 = .ok (.ifCond .ne 15, 3) := by decide +kernel
theorem dL_law_3650 : decode cL_law 3650 = .ok (.aload_n 3, 1) := by decide +kernel
theorem dL_law_3651 : decode cL_law 3651 = .ok (.iconst 0, 1) := by decide +kernel
theorem dL_law_3652 : decode cL_law 3652 = .ok (.laload, 1) := by decide +kernel
theorem dL_law_3653 : decode cL_law 3653 = .ok (.iload 7, 2) := by decide +kernel
theorem dL_law_3655 : decode cL_law 3655 = .ok (.i2l, 1) := by decide +kernel
theorem dL_law_3656 : decode cL_law 3656 = .ok (.lcmp, 1) := by decide +kernel
theorem dL_law_3657 : decode cL_law 3657 = .ok (.ifCond .eq 5, 3) := by decide +kernel
theorem dL_law_3662 : decode cL_law 3662 = .ok (.goto 3, 3) := by decide +kernel
theorem dL_law_3665 : decode cL_law 3665 = .ok (.iinc 5 5, 3) := by decide +kernel
theorem dL_law_3668 : decode cL_law 3668 = .ok (.goto (-3640), 3) := by decide +kernel
theorem dL_law_3671 : decode cL_law 3671 = .ok (.iconst 1, 1) := by decide +kernel
theorem dL_law_3672 : decode cL_law 3672 = .ok (.ireturn, 1) := by decide +kernel
