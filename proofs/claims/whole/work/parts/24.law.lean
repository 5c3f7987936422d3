theorem w_WaterOthersLaw_102 : Cond.methodLink "WaterOthersLaw" 102 y_X10_calm ∈ q_tbl := q_mem 930 (by decide +kernel) (by decide +kernel)
theorem w_WaterOthersLaw_103 : Cond.methodLink "WaterOthersLaw" 103 y_X9_year ∈ q_tbl := q_mem 647 (by decide +kernel) (by decide +kernel)
theorem w_WaterOthersLaw_106 : Cond.methodLink "WaterOthersLaw" 106 y_X10_year ∈ q_tbl := q_mem 936 (by decide +kernel) (by decide +kernel)
theorem w_WaterOthersLaw_107 : Cond.methodLink "WaterOthersLaw" 107 y_X9_image ∈ q_tbl := q_mem 663 (by decide +kernel) (by decide +kernel)
theorem w_WaterOthersLaw_110 : Cond.methodLink "WaterOthersLaw" 110 y_X10_image ∈ q_tbl := q_mem 941 (by decide +kernel) (by decide +kernel)
theorem w_WaterOthersLaw_111 : Cond.methodLink "WaterOthersLaw" 111 y_X9_restore ∈ q_tbl := q_mem 667 (by decide +kernel) (by decide +kernel)
theorem w_WaterOthersLaw_114 : Cond.methodLink "WaterOthersLaw" 114 y_X10_restore ∈ q_tbl := q_mem 945 (by decide +kernel) (by decide +kernel)
theorem w_WaterOthersLaw_115 : Cond.methodLink "WaterOthersLaw" 115 y_X9_told ∈ q_tbl := q_mem 671 (by decide +kernel) (by decide +kernel)
theorem w_WaterOthersLaw_118 : Cond.methodLink "WaterOthersLaw" 118 y_X10_told ∈ q_tbl := q_mem 949 (by decide +kernel) (by decide +kernel)
theorem w_WaterOthersLaw_13 : Cond.methodLink "WaterOthersLaw" 13 y_X9_arch ∈ q_tbl := q_mem 282 (by decide +kernel) (by decide +kernel)
theorem w_WaterOthersLaw_17 : Cond.methodLink "WaterOthersLaw" 17 y_X10_arch ∈ q_tbl := q_mem 752 (by decide +kernel) (by decide +kernel)
theorem w_WaterOthersLaw_18 : Cond.methodLink "WaterOthersLaw" 18 y_X9_gap ∈ q_tbl := q_mem 292 (by decide +kernel) (by decide +kernel)
theorem w_WaterOthersLaw_22 : Cond.methodLink "WaterOthersLaw" 22 y_X10_gap ∈ q_tbl := q_mem 762 (by decide +kernel) (by decide +kernel)
theorem w_WaterOthersLaw_23 : Cond.methodLink "WaterOthersLaw" 23 y_X9_walker ∈ q_tbl := q_mem 296 (by decide +kernel) (by decide +kernel)
theorem w_WaterOthersLaw_27 : Cond.methodLink "WaterOthersLaw" 27 y_X10_walker ∈ q_tbl := q_mem 766 (by decide +kernel) (by decide +kernel)
theorem w_WaterOthersLaw_28 : Cond.methodLink "WaterOthersLaw" 28 y_X9_leave ∈ q_tbl := q_mem 321 (by decide +kernel) (by decide +kernel)
theorem w_WaterOthersLaw_31 : Cond.methodLink "WaterOthersLaw" 31 y_X10_leave ∈ q_tbl := q_mem 773 (by decide +kernel) (by decide +kernel)
theorem w_WaterOthersLaw_32 : Cond.methodLink "WaterOthersLaw" 32 y_X9_say ∈ q_tbl := q_mem 330 (by decide +kernel) (by decide +kernel)
theorem w_WaterOthersLaw_35 : Cond.methodLink "WaterOthersLaw" 35 y_X10_say ∈ q_tbl := q_mem 784 (by decide +kernel) (by decide +kernel)
theorem w_WaterOthersLaw_36 : Cond.methodLink "WaterOthersLaw" 36 y_X9_wipe ∈ q_tbl := q_mem 338 (by decide +kernel) (by decide +kernel)
theorem w_WaterOthersLaw_40 : Cond.methodLink "WaterOthersLaw" 40 y_X10_wipe ∈ q_tbl := q_mem 788 (by decide +kernel) (by decide +kernel)
theorem w_WaterOthersLaw_41 : Cond.methodLink "WaterOthersLaw" 41 y_X9_fault ∈ q_tbl := q_mem 346 (by decide +kernel) (by decide +kernel)
theorem w_WaterOthersLaw_44 : Cond.methodLink "WaterOthersLaw" 44 y_X10_fault ∈ q_tbl := q_mem 792 (by decide +kernel) (by decide +kernel)
theorem w_WaterOthersLaw_45 : Cond.methodLink "WaterOthersLaw" 45 y_X9_judge ∈ q_tbl := q_mem 364 (by decide +kernel) (by decide +kernel)
theorem w_WaterOthersLaw_48 : Cond.methodLink "WaterOthersLaw" 48 y_X10_judge ∈ q_tbl := q_mem 800 (by decide +kernel) (by decide +kernel)
theorem w_WaterOthersLaw_49 : Cond.methodLink "WaterOthersLaw" 49 y_X9_done ∈ q_tbl := q_mem 464 (by decide +kernel) (by decide +kernel)
theorem w_WaterOthersLaw_52 : Cond.methodLink "WaterOthersLaw" 52 y_X10_done ∈ q_tbl := q_mem 852 (by decide +kernel) (by decide +kernel)
theorem w_WaterOthersLaw_53 : Cond.methodLink "WaterOthersLaw" 53 y_X9_behind ∈ q_tbl := q_mem 469 (by decide +kernel) (by decide +kernel)
theorem w_WaterOthersLaw_57 : Cond.methodLink "WaterOthersLaw" 57 y_X10_behind ∈ q_tbl := q_mem 860 (by decide +kernel) (by decide +kernel)
theorem w_WaterOthersLaw_58 : Cond.methodLink "WaterOthersLaw" 58 y_X9_then ∈ q_tbl := q_mem 474 (by decide +kernel) (by decide +kernel)
theorem w_WaterOthersLaw_61 : Cond.methodLink "WaterOthersLaw" 61 y_X10_then ∈ q_tbl := q_mem 864 (by decide +kernel) (by decide +kernel)
theorem w_WaterOthersLaw_62 : Cond.methodLink "WaterOthersLaw" 62 y_X9_standing ∈ q_tbl := q_mem 482 (by decide +kernel) (by decide +kernel)
theorem w_WaterOthersLaw_65 : Cond.methodLink "WaterOthersLaw" 65 y_X10_standing ∈ q_tbl := q_mem 872 (by decide +kernel) (by decide +kernel)
theorem w_WaterOthersLaw_66 : Cond.methodLink "WaterOthersLaw" 66 y_X9_trip ∈ q_tbl := q_mem 488 (by decide +kernel) (by decide +kernel)
theorem w_WaterOthersLaw_69 : Cond.methodLink "WaterOthersLaw" 69 y_X10_trip ∈ q_tbl := q_mem 876 (by decide +kernel) (by decide +kernel)
theorem w_WaterOthersLaw_70 : Cond.methodLink "WaterOthersLaw" 70 y_X9_again ∈ q_tbl := q_mem 523 (by decide +kernel) (by decide +kernel)
theorem w_WaterOthersLaw_73 : Cond.methodLink "WaterOthersLaw" 73 y_X10_again ∈ q_tbl := q_mem 887 (by decide +kernel) (by decide +kernel)
theorem w_WaterOthersLaw_74 : Cond.methodLink "WaterOthersLaw" 74 y_X9_order ∈ q_tbl := q_mem 532 (by decide +kernel) (by decide +kernel)
theorem w_WaterOthersLaw_77 : Cond.methodLink "WaterOthersLaw" 77 y_X10_order ∈ q_tbl := q_mem 891 (by decide +kernel) (by decide +kernel)
theorem w_WaterOthersLaw_78 : Cond.methodLink "WaterOthersLaw" 78 y_X9_seen ∈ q_tbl := q_mem 549 (by decide +kernel) (by decide +kernel)
theorem w_WaterOthersLaw_81 : Cond.methodLink "WaterOthersLaw" 81 y_X10_seen ∈ q_tbl := q_mem 900 (by decide +kernel) (by decide +kernel)
theorem w_WaterOthersLaw_82 : Cond.methodLink "WaterOthersLaw" 82 y_X9_forget ∈ q_tbl := q_mem 557 (by decide +kernel) (by decide +kernel)
theorem w_WaterOthersLaw_85 : Cond.methodLink "WaterOthersLaw" 85 y_X10_forget ∈ q_tbl := q_mem 904 (by decide +kernel) (by decide +kernel)
theorem w_WaterOthersLaw_86 : Cond.methodLink "WaterOthersLaw" 86 y_X9_fits ∈ q_tbl := q_mem 561 (by decide +kernel) (by decide +kernel)
theorem w_WaterOthersLaw_89 : Cond.methodLink "WaterOthersLaw" 89 y_X10_fits ∈ q_tbl := q_mem 908 (by decide +kernel) (by decide +kernel)
theorem w_WaterOthersLaw_90 : Cond.methodLink "WaterOthersLaw" 90 y_X9_ask ∈ q_tbl := q_mem 582 (by decide +kernel) (by decide +kernel)
theorem w_WaterOthersLaw_93 : Cond.methodLink "WaterOthersLaw" 93 y_X10_ask ∈ q_tbl := q_mem 919 (by decide +kernel) (by decide +kernel)
theorem w_WaterOthersLaw_94 : Cond.methodLink "WaterOthersLaw" 94 y_X9_lengths ∈ q_tbl := q_mem 600 (by decide +kernel) (by decide +kernel)
theorem w_WaterOthersLaw_97 : Cond.methodLink "WaterOthersLaw" 97 y_X10_lengths ∈ q_tbl := q_mem 923 (by decide +kernel) (by decide +kernel)
theorem w_WaterOthersLaw_98 : Cond.methodLink "WaterOthersLaw" 98 y_X9_calm ∈ q_tbl := q_mem 614 (by decide +kernel) (by decide +kernel)
def f_L_law_167 (N L : Nat) (xs : Nat → Int32) (k18 : Int32 → q_S → Option q_S) (x3 : Int32) (t1 : Int32) (t2 : Int32) (σ : q_S) : Option q_S :=
  if ¬ (((x3 + 1) : Int32) < 0 ∨ L ≤ ((x3 + 1) : Int32).toNatClampNeg) then if ¬ (((x3 + 2) : Int32) < 0 ∨ L ≤ ((x3 + 2) : Int32).toNatClampNeg) then if (xs ((x3 + 2) : Int32).toNatClampNeg) = 0 then (if ((f_X9_arch t1 t2 σ).1) = ((f_X10_arch (xs ((x3 + 1) : Int32).toNatClampNeg) 0 ((f_X9_arch t1 t2 σ).2)).1) then (k18 (x3 + 6) ((f_X10_arch (xs ((x3 + 1) : Int32).toNatClampNeg) 0 ((f_X9_arch t1 t2 σ).2)).2))
    else (none))
  else (if ((f_X9_arch t1 t2 σ).1) = ((f_X10_arch (xs ((x3 + 1) : Int32).toNatClampNeg) 1 ((f_X9_arch t1 t2 σ).2)).1) then (k18 (x3 + 6) ((f_X10_arch (xs ((x3 + 1) : Int32).toNatClampNeg) 1 ((f_X9_arch t1 t2 σ).2)).2))
    else (none)) else none else none
def f_L_law_18 (N L : Nat) (xs : Nat → Int32)    : Nat → Int32 → q_S → Option q_S
  | 0, _, _ => none
  | n + 1, x3, σ =>
    if ((Int32.ofNat L) - 6) < x3 then (some σ)
    else (if ¬ ((x3 : Int32) < 0 ∨ L ≤ (x3 : Int32).toNatClampNeg) then if ((xs (x3 : Int32).toNatClampNeg) &&& 31) = 0 then (if ¬ (((x3 + 1) : Int32) < 0 ∨ L ≤ ((x3 + 1) : Int32).toNatClampNeg) then if ¬ (((x3 + 2) : Int32) < 0 ∨ L ≤ ((x3 + 2) : Int32).toNatClampNeg) then if (xs ((x3 + 2) : Int32).toNatClampNeg) = 0 then (f_L_law_167 N L xs (fun x3 σ => f_L_law_18 N L xs n x3 σ) x3 (xs ((x3 + 1) : Int32).toNatClampNeg) 0 σ)
        else (f_L_law_167 N L xs (fun x3 σ => f_L_law_18 N L xs n x3 σ) x3 (xs ((x3 + 1) : Int32).toNatClampNeg) 1 σ) else none else none)
      else if ((xs (x3 : Int32).toNatClampNeg) &&& 31) = 1 then (if ¬ (((x3 + 1) : Int32) < 0 ∨ L ≤ ((x3 + 1) : Int32).toNatClampNeg) then if ((f_X9_gap (xs ((x3 + 1) : Int32).toNatClampNeg) σ).1) = ((f_X10_gap (xs ((x3 + 1) : Int32).toNatClampNeg) ((f_X9_gap (xs ((x3 + 1) : Int32).toNatClampNeg) σ).2)).1) then (f_L_law_18 N L xs n (x3 + 6) ((f_X10_gap (xs ((x3 + 1) : Int32).toNatClampNeg) ((f_X9_gap (xs ((x3 + 1) : Int32).toNatClampNeg) σ).2)).2))
          else (none) else none)
      else if ((xs (x3 : Int32).toNatClampNeg) &&& 31) = 2 then (if ¬ (((x3 + 1) : Int32) < 0 ∨ L ≤ ((x3 + 1) : Int32).toNatClampNeg) then if ¬ (((x3 + 2) : Int32) < 0 ∨ L ≤ ((x3 + 2) : Int32).toNatClampNeg) then if ¬ (((x3 + 3) : Int32) < 0 ∨ L ≤ ((x3 + 3) : Int32).toNatClampNeg) then (f_X9_walker N (xs ((x3 + 1) : Int32).toNatClampNeg) (xs ((x3 + 2) : Int32).toNatClampNeg) (xs ((x3 + 3) : Int32).toNatClampNeg) σ).bind fun z236 =>
            (f_X10_walker N (xs ((x3 + 1) : Int32).toNatClampNeg) (xs ((x3 + 2) : Int32).toNatClampNeg) (xs ((x3 + 3) : Int32).toNatClampNeg) z236.2).bind fun z255 =>
            if z236.1 = z255.1 then (f_L_law_18 N L xs n (x3 + 6) z255.2)
            else (none) else none else none else none)
      else if ((xs (x3 : Int32).toNatClampNeg) &&& 31) = 3 then (if ¬ (((x3 + 1) : Int32) < 0 ∨ L ≤ ((x3 + 1) : Int32).toNatClampNeg) then (f_X9_leave N (xs ((x3 + 1) : Int32).toNatClampNeg) σ).bind fun z269 =>
              (f_X10_leave N (xs ((x3 + 1) : Int32).toNatClampNeg) z269.2).bind fun z278 =>
              if z269.1 = z278.1 then (f_L_law_18 N L xs n (x3 + 6) z278.2)
              else (none) else none)
      else if ((xs (x3 : Int32).toNatClampNeg) &&& 31) = 4 then (if ¬ (((x3 + 1) : Int32) < 0 ∨ L ≤ ((x3 + 1) : Int32).toNatClampNeg) then (f_X9_say (xs ((x3 + 1) : Int32).toNatClampNeg) σ).bind fun z292 =>
                (f_X10_say (xs ((x3 + 1) : Int32).toNatClampNeg) z292.2).bind fun z301 =>
                if z292.1 = z301.1 then (f_L_law_18 N L xs n (x3 + 6) z301.2)
                else (none) else none)
      else if ((xs (x3 : Int32).toNatClampNeg) &&& 31) = 5 then (if ((f_X9_wipe σ).1) = ((f_X10_wipe ((f_X9_wipe σ).2)).1) then (f_L_law_18 N L xs n (x3 + 6) ((f_X10_wipe ((f_X9_wipe σ).2)).2))
                  else (none))
      else if ((xs (x3 : Int32).toNatClampNeg) &&& 31) = 6 then ((f_X9_fault N σ).bind fun z323 =>
                    (f_X10_fault N σ).bind fun z327 =>
                    if z323 = z327 then (f_L_law_18 N L xs n (x3 + 6) σ)
                    else (none))
      else if ((xs (x3 : Int32).toNatClampNeg) &&& 31) = 7 then (if ¬ (((x3 + 1) : Int32) < 0 ∨ L ≤ ((x3 + 1) : Int32).toNatClampNeg) then (f_X9_judge N (xs ((x3 + 1) : Int32).toNatClampNeg) σ).bind fun z341 =>
                      (f_X10_judge N (xs ((x3 + 1) : Int32).toNatClampNeg) z341.2).bind fun z350 =>
                      if z341.1 = z350.1 then (f_L_law_18 N L xs n (x3 + 6) z350.2)
                      else (none) else none)
      else if ((xs (x3 : Int32).toNatClampNeg) &&& 31) = 8 then ((f_X9_done N σ).bind fun z359 =>
                        (f_X10_done N z359.2).bind fun z363 =>
                        if z359.1 = z363.1 then (f_L_law_18 N L xs n (x3 + 6) z363.2)
                        else (none))
      else if ((xs (x3 : Int32).toNatClampNeg) &&& 31) = 9 then (if ¬ (((x3 + 1) : Int32) < 0 ∨ L ≤ ((x3 + 1) : Int32).toNatClampNeg) then if ¬ (((x3 + 2) : Int32) < 0 ∨ L ≤ ((x3 + 2) : Int32).toNatClampNeg) then (f_X9_behind N (xs ((x3 + 1) : Int32).toNatClampNeg) (xs ((x3 + 2) : Int32).toNatClampNeg) σ).bind fun z382 =>
                          (f_X10_behind N (xs ((x3 + 1) : Int32).toNatClampNeg) (xs ((x3 + 2) : Int32).toNatClampNeg) z382.2).bind fun z396 =>
                          if z382.1 = z396.1 then (f_L_law_18 N L xs n (x3 + 6) z396.2)
                          else (none) else none else none)
      else if ((xs (x3 : Int32).toNatClampNeg) &&& 31) = 10 then (if ¬ (((x3 + 1) : Int32) < 0 ∨ L ≤ ((x3 + 1) : Int32).toNatClampNeg) then (f_X9_then N (xs ((x3 + 1) : Int32).toNatClampNeg) σ).bind fun z410 =>
                            (f_X10_then N (xs ((x3 + 1) : Int32).toNatClampNeg) z410.2).bind fun z419 =>
                            if z410.1 = z419.1 then (f_L_law_18 N L xs n (x3 + 6) z419.2)
                            else (none) else none)
      else if ((xs (x3 : Int32).toNatClampNeg) &&& 31) = 11 then (if ¬ (((x3 + 1) : Int32) < 0 ∨ L ≤ ((x3 + 1) : Int32).toNatClampNeg) then if ¬ (((x3 + 2) : Int32) < 0 ∨ L ≤ ((x3 + 2) : Int32).toNatClampNeg) then (f_X9_standing N (xs ((x3 + 1) : Int32).toNatClampNeg) (xs ((x3 + 2) : Int32).toNatClampNeg) σ).bind fun z438 =>
                              (f_X10_standing N (xs ((x3 + 1) : Int32).toNatClampNeg) (xs ((x3 + 2) : Int32).toNatClampNeg) σ).bind fun z452 =>
                              if z438 = z452.1 then (f_L_law_18 N L xs n (x3 + 6) z452.2)
                              else (none) else none else none)
      else if ((xs (x3 : Int32).toNatClampNeg) &&& 31) = 12 then (if ¬ (((x3 + 1) : Int32) < 0 ∨ L ≤ ((x3 + 1) : Int32).toNatClampNeg) then if ¬ (((x3 + 2) : Int32) < 0 ∨ L ≤ ((x3 + 2) : Int32).toNatClampNeg) then if ¬ (((x3 + 3) : Int32) < 0 ∨ L ≤ ((x3 + 3) : Int32).toNatClampNeg) then (f_X9_trip N (xs ((x3 + 1) : Int32).toNatClampNeg) (xs ((x3 + 2) : Int32).toNatClampNeg) (xs ((x3 + 3) : Int32).toNatClampNeg) σ).bind fun z476 =>
                                (f_X10_trip N (xs ((x3 + 1) : Int32).toNatClampNeg) (xs ((x3 + 2) : Int32).toNatClampNeg) (xs ((x3 + 3) : Int32).toNatClampNeg) z476.2).bind fun z495 =>
                                if z476.1 = z495.1 then (f_L_law_18 N L xs n (x3 + 6) z495.2)
                                else (none) else none else none else none)
      else if ((xs (x3 : Int32).toNatClampNeg) &&& 31) = 13 then (if ¬ (((x3 + 1) : Int32) < 0 ∨ L ≤ ((x3 + 1) : Int32).toNatClampNeg) then if ¬ (((x3 + 2) : Int32) < 0 ∨ L ≤ ((x3 + 2) : Int32).toNatClampNeg) then (f_X9_again N (xs ((x3 + 1) : Int32).toNatClampNeg) (xs ((x3 + 2) : Int32).toNatClampNeg) σ).bind fun z514 =>
                                  (f_X10_again N (xs ((x3 + 1) : Int32).toNatClampNeg) (xs ((x3 + 2) : Int32).toNatClampNeg) σ).bind fun z528 =>
                                  if z514 = z528.1 then (f_L_law_18 N L xs n (x3 + 6) z528.2)
                                  else (none) else none else none)
      else if ((xs (x3 : Int32).toNatClampNeg) &&& 31) = 14 then (if ¬ (((x3 + 1) : Int32) < 0 ∨ L ≤ ((x3 + 1) : Int32).toNatClampNeg) then if ¬ (((x3 + 2) : Int32) < 0 ∨ L ≤ ((x3 + 2) : Int32).toNatClampNeg) then if ¬ (((x3 + 3) : Int32) < 0 ∨ L ≤ ((x3 + 3) : Int32).toNatClampNeg) then (f_X9_order N (xs ((x3 + 1) : Int32).toNatClampNeg) (xs ((x3 + 2) : Int32).toNatClampNeg) (xs ((x3 + 3) : Int32).toNatClampNeg) σ).bind fun z552 =>
                                    (f_X10_order N (xs ((x3 + 1) : Int32).toNatClampNeg) (xs ((x3 + 2) : Int32).toNatClampNeg) (xs ((x3 + 3) : Int32).toNatClampNeg)).bind fun z571 =>
                                    if z552.1 = z571 then (f_L_law_18 N L xs n (x3 + 6) z552.2)
                                    else (none) else none else none else none)
      else if ((xs (x3 : Int32).toNatClampNeg) &&& 31) = 15 then (if ¬ (((x3 + 1) : Int32) < 0 ∨ L ≤ ((x3 + 1) : Int32).toNatClampNeg) then if ¬ (((x3 + 2) : Int32) < 0 ∨ L ≤ ((x3 + 2) : Int32).toNatClampNeg) then (f_X9_seen (xs ((x3 + 1) : Int32).toNatClampNeg) (xs ((x3 + 2) : Int32).toNatClampNeg) σ).bind fun z590 =>
                                      (f_X10_seen (xs ((x3 + 1) : Int32).toNatClampNeg) (xs ((x3 + 2) : Int32).toNatClampNeg) z590.2).bind fun z604 =>
                                      if z590.1 = z604.1 then (f_L_law_18 N L xs n (x3 + 6) z604.2)
                                      else (none) else none else none)
      else if ((xs (x3 : Int32).toNatClampNeg) &&& 31) = 16 then (if ((f_X9_forget σ).1) = ((f_X10_forget ((f_X9_forget σ).2)).1) then (f_L_law_18 N L xs n (x3 + 6) ((f_X10_forget ((f_X9_forget σ).2)).2))
                                        else (none))
      else if ((xs (x3 : Int32).toNatClampNeg) &&& 31) = 17 then (if ¬ (((x3 + 1) : Int32) < 0 ∨ L ≤ ((x3 + 1) : Int32).toNatClampNeg) then (f_X9_fits N (xs ((x3 + 1) : Int32).toNatClampNeg) σ).bind fun z631 =>
                                          (f_X10_fits N (xs ((x3 + 1) : Int32).toNatClampNeg) σ).bind fun z640 =>
                                          if z631 = z640 then (f_L_law_18 N L xs n (x3 + 6) σ)
                                          else (none) else none)
      else if ((xs (x3 : Int32).toNatClampNeg) &&& 31) = 18 then (if ¬ (((x3 + 1) : Int32) < 0 ∨ L ≤ ((x3 + 1) : Int32).toNatClampNeg) then (f_X9_ask N (xs ((x3 + 1) : Int32).toNatClampNeg) σ).bind fun z654 =>
                                            (f_X10_ask N (xs ((x3 + 1) : Int32).toNatClampNeg) z654.2).bind fun z663 =>
                                            if z654.1 = z663.1 then (f_L_law_18 N L xs n (x3 + 6) z663.2)
                                            else (none) else none)
      else if ((xs (x3 : Int32).toNatClampNeg) &&& 31) = 19 then (if ¬ (((x3 + 1) : Int32) < 0 ∨ L ≤ ((x3 + 1) : Int32).toNatClampNeg) then if ¬ (((x3 + 2) : Int32) < 0 ∨ L ≤ ((x3 + 2) : Int32).toNatClampNeg) then if ¬ (((x3 + 3) : Int32) < 0 ∨ L ≤ ((x3 + 3) : Int32).toNatClampNeg) then (f_X9_lengths N (xs ((x3 + 1) : Int32).toNatClampNeg) (xs ((x3 + 2) : Int32).toNatClampNeg) (xs ((x3 + 3) : Int32).toNatClampNeg)).bind fun z687 =>
                                              (f_X10_lengths N (xs ((x3 + 1) : Int32).toNatClampNeg) (xs ((x3 + 2) : Int32).toNatClampNeg) (xs ((x3 + 3) : Int32).toNatClampNeg)).bind fun z706 =>
                                              if z687 = z706 then (f_L_law_18 N L xs n (x3 + 6) σ)
                                              else (none) else none else none else none)
      else if ((xs (x3 : Int32).toNatClampNeg) &&& 31) = 20 then (if ¬ (((x3 + 1) : Int32) < 0 ∨ L ≤ ((x3 + 1) : Int32).toNatClampNeg) then if ¬ (((x3 + 2) : Int32) < 0 ∨ L ≤ ((x3 + 2) : Int32).toNatClampNeg) then if ¬ (((x3 + 3) : Int32) < 0 ∨ L ≤ ((x3 + 3) : Int32).toNatClampNeg) then if ¬ (((x3 + 4) : Int32) < 0 ∨ L ≤ ((x3 + 4) : Int32).toNatClampNeg) then if ¬ (((x3 + 5) : Int32) < 0 ∨ L ≤ ((x3 + 5) : Int32).toNatClampNeg) then (f_X9_calm N (xs ((x3 + 1) : Int32).toNatClampNeg) (xs ((x3 + 2) : Int32).toNatClampNeg) (xs ((x3 + 3) : Int32).toNatClampNeg) (xs ((x3 + 4) : Int32).toNatClampNeg) (xs ((x3 + 5) : Int32).toNatClampNeg) σ).bind fun z740 =>
                                                (f_X10_calm N (xs ((x3 + 1) : Int32).toNatClampNeg) (xs ((x3 + 2) : Int32).toNatClampNeg) (xs ((x3 + 3) : Int32).toNatClampNeg) (xs ((x3 + 4) : Int32).toNatClampNeg) (xs ((x3 + 5) : Int32).toNatClampNeg) z740.2).bind fun z769 =>
                                                if (lg_cmp z740.1 z769.1) = 0 then (f_L_law_18 N L xs n (x3 + 6) z769.2)
                                                else (none) else none else none else none else none else none)
      else if ((xs (x3 : Int32).toNatClampNeg) &&& 31) = 21 then (if ¬ (((x3 + 1) : Int32) < 0 ∨ L ≤ ((x3 + 1) : Int32).toNatClampNeg) then if ¬ (((x3 + 2) : Int32) < 0 ∨ L ≤ ((x3 + 2) : Int32).toNatClampNeg) then if ¬ (((x3 + 3) : Int32) < 0 ∨ L ≤ ((x3 + 3) : Int32).toNatClampNeg) then (f_X9_year N (xs ((x3 + 1) : Int32).toNatClampNeg) (xs ((x3 + 2) : Int32).toNatClampNeg) (xs ((x3 + 3) : Int32).toNatClampNeg) σ).bind fun z794 =>
                                                  (f_X10_year N (xs ((x3 + 1) : Int32).toNatClampNeg) (xs ((x3 + 2) : Int32).toNatClampNeg) (xs ((x3 + 3) : Int32).toNatClampNeg) z794.2).bind fun z813 =>
                                                  if z794.1 = z813.1 then (f_L_law_18 N L xs n (x3 + 6) z813.2)
                                                  else (none) else none else none else none)
      else if ((xs (x3 : Int32).toNatClampNeg) &&& 31) = 22 then (if ¬ (((x3 + 1) : Int32) < 0 ∨ L ≤ ((x3 + 1) : Int32).toNatClampNeg) then (f_X9_image N (xs ((x3 + 1) : Int32).toNatClampNeg) σ).bind fun z827 =>
                                                    (f_X10_image N (xs ((x3 + 1) : Int32).toNatClampNeg) z827.2).bind fun z836 =>
                                                    if z827.1 = z836.1 then (f_L_law_18 N L xs n (x3 + 6) z836.2)
                                                    else (none) else none)
      else if ((xs (x3 : Int32).toNatClampNeg) &&& 31) = 23 then (if ¬ (((x3 + 1) : Int32) < 0 ∨ L ≤ ((x3 + 1) : Int32).toNatClampNeg) then (f_X9_restore N (xs ((x3 + 1) : Int32).toNatClampNeg) σ).bind fun z850 =>
                                                      (f_X10_restore N (xs ((x3 + 1) : Int32).toNatClampNeg) z850.2).bind fun z859 =>
                                                      if z850.1 = z859.1 then (f_L_law_18 N L xs n (x3 + 6) z859.2)
                                                      else (none) else none)
      else if ((xs (x3 : Int32).toNatClampNeg) &&& 31) = 24 then (if ¬ (((x3 + 1) : Int32) < 0 ∨ L ≤ ((x3 + 1) : Int32).toNatClampNeg) then (f_X9_told N (xs ((x3 + 1) : Int32).toNatClampNeg) σ).bind fun z873 =>
                                                        (f_X10_told N (xs ((x3 + 1) : Int32).toNatClampNeg) σ).bind fun z882 =>
                                                        if z873 = z882.1 then (f_L_law_18 N L xs n (x3 + 6) z882.2)
                                                        else (none) else none)
      else (f_L_law_18 N L xs n (x3 + 6) σ) else none)
def f_L_law (N L : Nat) (xs : Nat → Int32) (σ : q_S) : Option q_S :=
  f_L_law_18 N L xs N 0 σ
set_option maxRecDepth 20000 in
theorem t_L_law_167 {Z : q_Z} {Γ : q_C} {b L : Nat} {xs : Nat → Int32} {σ' : q_S} (B : q_B Z Γ code "WaterOthersLaw" 4 12) (En : q_LE Z Γ b L xs) (N : Nat) (k18 : Int32 → q_S → Option q_S) (x3 : Int32) (t1 : Int32) (t2 : Int32) (K18 : ∀ (x3 : Int32) (σ : q_S), k18 x3 σ = some σ' → q_G Z Γ 4 σ 18 [(0, .ref b), (1, .ref (Z.1 68)), (2, .ref (Z.1 84)), (3, .int x3)] []) (σ : q_S)  (h : f_L_law_167 N L xs k18 x3 t1 t2 σ = some σ') : q_G Z Γ 4 σ 167 [(0, .ref b), (1, .ref (Z.1 68)), (2, .ref (Z.1 84)), (3, .int x3)] [.int t2, .int t1, .ref (Z.1 68)] := by
  unfold f_L_law_167 at h
  refine g_callV (p0 := 68) (ci := 9) (As := [.int t1, .int t2]) (rest := []) B d_L_law_167 (t_X9_arch t1 t2 σ rfl) m_X9_arch w_WaterOthersLaw_13 (by decide) rfl rfl rfl rfl (Nat.le_of_ble_eq_true rfl) (by omega) (by decide) ?_
  refine g_aload_n B d_L_law_170 rfl rfl ?_
  refine g_aload_n B d_L_law_171 rfl rfl ?_
  refine g_iload_n B d_L_law_172 rfl rfl ?_
  refine g_iconst (v := 1) B d_L_law_173 (by decide) ?_
  refine g_iadd B d_L_law_174 ?_
  obtain ⟨h175, h⟩ := q_chk h
  refine g_sld B En d_L_law_175 h175 ?_
  refine g_aload_n B d_L_law_176 rfl rfl ?_
  refine g_iload_n B d_L_law_177 rfl rfl ?_
  refine g_iconst (v := 2) B d_L_law_178 (by decide) ?_
  refine g_iadd B d_L_law_179 ?_
  obtain ⟨h180, h⟩ := q_chk h
  refine g_sld B En d_L_law_180 h180 ?_
  refine g_if_eq (tgt := 188) B d_L_law_181 (by decide) h (fun h => ?_) (fun h => ?_)
  · refine g_iconst (v := 0) B d_L_law_188 (by decide) ?_
    refine g_callV (p0 := 84) (ci := 10) (As := [.int (xs ((x3 + 1) : Int32).toNatClampNeg), .int 0]) (rest := [.int ((f_X9_arch t1 t2 σ).1)]) B d_L_law_189 (t_X10_arch (xs ((x3 + 1) : Int32).toNatClampNeg) 0 ((f_X9_arch t1 t2 σ).2) rfl) m_X10_arch w_WaterOthersLaw_17 (by decide) rfl rfl rfl rfl (Nat.le_of_ble_eq_true rfl) (by omega) (by decide) ?_
    refine g_icmp_eq (tgt := 890) B d_L_law_192 (by decide) h (fun h => ?_) (fun h => ?_)
    · refine g_iinc (v := (x3 + 6)) B d_L_law_890 rfl rfl (by decide) ?_
      refine g_goto (tgt := 18) B d_L_law_893 (by decide) ?_
      exact g_cut rfl (K18 (x3 + 6) ((f_X10_arch (xs ((x3 + 1) : Int32).toNatClampNeg) 0 ((f_X9_arch t1 t2 σ).2)).2) h)
    · refine g_iconst (v := 0) B d_L_law_195 (by decide) ?_
      cases h
  · refine g_iconst (v := 1) B d_L_law_184 (by decide) ?_
    refine g_goto (tgt := 189) B d_L_law_185 (by decide) ?_
    refine g_callV (p0 := 84) (ci := 10) (As := [.int (xs ((x3 + 1) : Int32).toNatClampNeg), .int 1]) (rest := [.int ((f_X9_arch t1 t2 σ).1)]) B d_L_law_189 (t_X10_arch (xs ((x3 + 1) : Int32).toNatClampNeg) 1 ((f_X9_arch t1 t2 σ).2) rfl) m_X10_arch w_WaterOthersLaw_17 (by decide) rfl rfl rfl rfl (Nat.le_of_ble_eq_true rfl) (by omega) (by decide) ?_
    refine g_icmp_eq (tgt := 890) B d_L_law_192 (by decide) h (fun h => ?_) (fun h => ?_)
    · refine g_iinc (v := (x3 + 6)) B d_L_law_890 rfl rfl (by decide) ?_
      refine g_goto (tgt := 18) B d_L_law_893 (by decide) ?_
      exact g_cut rfl (K18 (x3 + 6) ((f_X10_arch (xs ((x3 + 1) : Int32).toNatClampNeg) 1 ((f_X9_arch t1 t2 σ).2)).2) h)
    · refine g_iconst (v := 0) B d_L_law_195 (by decide) ?_
      cases h
set_option maxRecDepth 20000 in
theorem t_L_law_18 {Z : q_Z} {Γ : q_C} {b L : Nat} {xs : Nat → Int32} {σ' : q_S} (B : q_B Z Γ code "WaterOthersLaw" 4 12) (En : q_LE Z Γ b L xs) (N : Nat)     : ∀ (n : Nat) (x3 : Int32) (σ : q_S), f_L_law_18 N L xs n x3 σ = some σ' → q_G Z Γ 4 σ 18 [(0, .ref b), (1, .ref (Z.1 68)), (2, .ref (Z.1 84)), (3, .int x3)] [] := by
  intro n
  induction n with
  | zero =>
    intro x3 σ h
    cases h
  | succ n ih =>
    intro x3 σ h
    unfold f_L_law_18 at h
    refine g_iload_n B d_L_law_18 rfl rfl ?_
    refine g_aload_n B d_L_law_19 rfl rfl ?_
    refine g_slen B En d_L_law_20 ?_
    refine g_bipush (v := 6) B d_L_law_21 (by decide) ?_
    refine g_isub B d_L_law_23 ?_
    refine g_icmp_gt (tgt := 896) B d_L_law_24 (by decide) h (fun h => ?_) (fun h => ?_)
    · refine g_iconst (v := 1) B d_L_law_896 (by decide) ?_
      exact g_law1 B En d_L_law_897
    · refine g_aload_n B d_L_law_27 rfl rfl ?_
      refine g_iload_n B d_L_law_28 rfl rfl ?_
      obtain ⟨h29, h⟩ := q_chk h
      refine g_sld B En d_L_law_29 h29 ?_
      refine g_bipush (v := 31) B d_L_law_30 (by decide) ?_
      refine g_iand B d_L_law_32 ?_
      refine q_sw h (fun e33_0 h => ?_) (fun e33_0 h => ?_)
      · refine g_tswIn (c0 := 0) (tgt := 148) B d_L_law_33 e33_0 (by decide) (by decide) rfl (by decide) ?_
        refine g_aload_n B d_L_law_148 rfl rfl ?_
        refine g_aload_n B d_L_law_149 rfl rfl ?_
        refine g_iload_n B d_L_law_150 rfl rfl ?_
        refine g_iconst (v := 1) B d_L_law_151 (by decide) ?_
        refine g_iadd B d_L_law_152 ?_
        obtain ⟨h153, h⟩ := q_chk h
        refine g_sld B En d_L_law_153 h153 ?_
        refine g_aload_n B d_L_law_154 rfl rfl ?_
        refine g_iload_n B d_L_law_155 rfl rfl ?_
        refine g_iconst (v := 2) B d_L_law_156 (by decide) ?_
        refine g_iadd B d_L_law_157 ?_
        obtain ⟨h158, h⟩ := q_chk h
        refine g_sld B En d_L_law_158 h158 ?_
        refine g_if_eq (tgt := 166) B d_L_law_159 (by decide) h (fun h => ?_) (fun h => ?_)
        · refine g_iconst (v := 0) B d_L_law_166 (by decide) ?_
          exact g_cut rfl (t_L_law_167 B En N (fun x3 σ => f_L_law_18 N L xs n x3 σ) x3 (xs ((x3 + 1) : Int32).toNatClampNeg) 0 (ih) σ h)
        · refine g_iconst (v := 1) B d_L_law_162 (by decide) ?_
          refine g_goto (tgt := 167) B d_L_law_163 (by decide) ?_
          exact g_cut rfl (t_L_law_167 B En N (fun x3 σ => f_L_law_18 N L xs n x3 σ) x3 (xs ((x3 + 1) : Int32).toNatClampNeg) 1 (ih) σ h)
      · skip
        refine q_sw h (fun e33_1 h => ?_) (fun e33_1 h => ?_)
        · refine g_tswIn (c0 := 1) (tgt := 197) B d_L_law_33 e33_1 (by decide) (by decide) rfl (by decide) ?_
          refine g_aload_n B d_L_law_197 rfl rfl ?_
          refine g_aload_n B d_L_law_198 rfl rfl ?_
          refine g_iload_n B d_L_law_199 rfl rfl ?_
          refine g_iconst (v := 1) B d_L_law_200 (by decide) ?_
          refine g_iadd B d_L_law_201 ?_
          obtain ⟨h202, h⟩ := q_chk h
          refine g_sld B En d_L_law_202 h202 ?_
          refine g_callV (p0 := 68) (ci := 9) (As := [.int (xs ((x3 + 1) : Int32).toNatClampNeg)]) (rest := []) B d_L_law_203 (t_X9_gap (xs ((x3 + 1) : Int32).toNatClampNeg) σ rfl) m_X9_gap w_WaterOthersLaw_18 (by decide) rfl rfl rfl rfl (Nat.le_of_ble_eq_true rfl) (by omega) (by decide) ?_
          refine g_aload_n B d_L_law_206 rfl rfl ?_
          refine g_aload_n B d_L_law_207 rfl rfl ?_
          refine g_iload_n B d_L_law_208 rfl rfl ?_
          refine g_iconst (v := 1) B d_L_law_209 (by decide) ?_
          refine g_iadd B d_L_law_210 ?_
          refine g_sld B En d_L_law_211 h202 ?_
          refine g_callV (p0 := 84) (ci := 10) (As := [.int (xs ((x3 + 1) : Int32).toNatClampNeg)]) (rest := [.int ((f_X9_gap (xs ((x3 + 1) : Int32).toNatClampNeg) σ).1)]) B d_L_law_212 (t_X10_gap (xs ((x3 + 1) : Int32).toNatClampNeg) ((f_X9_gap (xs ((x3 + 1) : Int32).toNatClampNeg) σ).2) rfl) m_X10_gap w_WaterOthersLaw_22 (by decide) rfl rfl rfl rfl (Nat.le_of_ble_eq_true rfl) (by omega) (by decide) ?_
          refine g_icmp_eq (tgt := 890) B d_L_law_215 (by decide) h (fun h => ?_) (fun h => ?_)
          · refine g_iinc (v := (x3 + 6)) B d_L_law_890 rfl rfl (by decide) ?_
            refine g_goto (tgt := 18) B d_L_law_893 (by decide) ?_
            exact g_cut rfl (ih (x3 + 6) ((f_X10_gap (xs ((x3 + 1) : Int32).toNatClampNeg) ((f_X9_gap (xs ((x3 + 1) : Int32).toNatClampNeg) σ).2)).2) h)
          · refine g_iconst (v := 0) B d_L_law_218 (by decide) ?_
            cases h
        · skip
          refine q_sw h (fun e33_2 h => ?_) (fun e33_2 h => ?_)
          · refine g_tswIn (c0 := 2) (tgt := 220) B d_L_law_33 e33_2 (by decide) (by decide) rfl (by decide) ?_
            refine g_aload_n B d_L_law_220 rfl rfl ?_
            refine g_aload_n B d_L_law_221 rfl rfl ?_
            refine g_iload_n B d_L_law_222 rfl rfl ?_
            refine g_iconst (v := 1) B d_L_law_223 (by decide) ?_
            refine g_iadd B d_L_law_224 ?_
            obtain ⟨h225, h⟩ := q_chk h
            refine g_sld B En d_L_law_225 h225 ?_
            refine g_aload_n B d_L_law_226 rfl rfl ?_
            refine g_iload_n B d_L_law_227 rfl rfl ?_
            refine g_iconst (v := 2) B d_L_law_228 (by decide) ?_
            refine g_iadd B d_L_law_229 ?_
            obtain ⟨h230, h⟩ := q_chk h
            refine g_sld B En d_L_law_230 h230 ?_
            refine g_aload_n B d_L_law_231 rfl rfl ?_
            refine g_iload_n B d_L_law_232 rfl rfl ?_
            refine g_iconst (v := 3) B d_L_law_233 (by decide) ?_
            refine g_iadd B d_L_law_234 ?_
            obtain ⟨h235, h⟩ := q_chk h
            refine g_sld B En d_L_law_235 h235 ?_
            obtain ⟨z236, g236, h⟩ := q_bind h
            refine g_callV (p0 := 68) (ci := 9) (As := [.int (xs ((x3 + 1) : Int32).toNatClampNeg), .int (xs ((x3 + 2) : Int32).toNatClampNeg), .int (xs ((x3 + 3) : Int32).toNatClampNeg)]) (rest := []) B d_L_law_236 (t_X9_walker N (xs ((x3 + 1) : Int32).toNatClampNeg) (xs ((x3 + 2) : Int32).toNatClampNeg) (xs ((x3 + 3) : Int32).toNatClampNeg) σ g236) m_X9_walker w_WaterOthersLaw_23 (by decide) rfl rfl rfl rfl (Nat.le_of_ble_eq_true rfl) (by omega) (by decide) ?_
            refine g_aload_n B d_L_law_239 rfl rfl ?_
            refine g_aload_n B d_L_law_240 rfl rfl ?_
            refine g_iload_n B d_L_law_241 rfl rfl ?_
            refine g_iconst (v := 1) B d_L_law_242 (by decide) ?_
            refine g_iadd B d_L_law_243 ?_
            refine g_sld B En d_L_law_244 h225 ?_
            refine g_aload_n B d_L_law_245 rfl rfl ?_
            refine g_iload_n B d_L_law_246 rfl rfl ?_
            refine g_iconst (v := 2) B d_L_law_247 (by decide) ?_
            refine g_iadd B d_L_law_248 ?_
            refine g_sld B En d_L_law_249 h230 ?_
            refine g_aload_n B d_L_law_250 rfl rfl ?_
            refine g_iload_n B d_L_law_251 rfl rfl ?_
            refine g_iconst (v := 3) B d_L_law_252 (by decide) ?_
            refine g_iadd B d_L_law_253 ?_
            refine g_sld B En d_L_law_254 h235 ?_
            obtain ⟨z255, g255, h⟩ := q_bind h
            refine g_callV (p0 := 84) (ci := 10) (As := [.int (xs ((x3 + 1) : Int32).toNatClampNeg), .int (xs ((x3 + 2) : Int32).toNatClampNeg), .int (xs ((x3 + 3) : Int32).toNatClampNeg)]) (rest := [.int z236.1]) B d_L_law_255 (t_X10_walker N (xs ((x3 + 1) : Int32).toNatClampNeg) (xs ((x3 + 2) : Int32).toNatClampNeg) (xs ((x3 + 3) : Int32).toNatClampNeg) z236.2 g255) m_X10_walker w_WaterOthersLaw_27 (by decide) rfl rfl rfl rfl (Nat.le_of_ble_eq_true rfl) (by omega) (by decide) ?_
            refine g_icmp_eq (tgt := 890) B d_L_law_258 (by decide) h (fun h => ?_) (fun h => ?_)
            · refine g_iinc (v := (x3 + 6)) B d_L_law_890 rfl rfl (by decide) ?_
              refine g_goto (tgt := 18) B d_L_law_893 (by decide) ?_
              exact g_cut rfl (ih (x3 + 6) z255.2 h)
            · refine g_iconst (v := 0) B d_L_law_261 (by decide) ?_
              cases h
          · skip
            refine q_sw h (fun e33_3 h => ?_) (fun e33_3 h => ?_)
            · refine g_tswIn (c0 := 3) (tgt := 263) B d_L_law_33 e33_3 (by decide) (by decide) rfl (by decide) ?_
              refine g_aload_n B d_L_law_263 rfl rfl ?_
              refine g_aload_n B d_L_law_264 rfl rfl ?_
              refine g_iload_n B d_L_law_265 rfl rfl ?_
              refine g_iconst (v := 1) B d_L_law_266 (by decide) ?_
              refine g_iadd B d_L_law_267 ?_
              obtain ⟨h268, h⟩ := q_chk h
              refine g_sld B En d_L_law_268 h268 ?_
              obtain ⟨z269, g269, h⟩ := q_bind h
              refine g_callV (p0 := 68) (ci := 9) (As := [.int (xs ((x3 + 1) : Int32).toNatClampNeg)]) (rest := []) B d_L_law_269 (t_X9_leave N (xs ((x3 + 1) : Int32).toNatClampNeg) σ g269) m_X9_leave w_WaterOthersLaw_28 (by decide) rfl rfl rfl rfl (Nat.le_of_ble_eq_true rfl) (by omega) (by decide) ?_
              refine g_aload_n B d_L_law_272 rfl rfl ?_
              refine g_aload_n B d_L_law_273 rfl rfl ?_
              refine g_iload_n B d_L_law_274 rfl rfl ?_
              refine g_iconst (v := 1) B d_L_law_275 (by decide) ?_
              refine g_iadd B d_L_law_276 ?_
              refine g_sld B En d_L_law_277 h268 ?_
              obtain ⟨z278, g278, h⟩ := q_bind h
              refine g_callV (p0 := 84) (ci := 10) (As := [.int (xs ((x3 + 1) : Int32).toNatClampNeg)]) (rest := [.int z269.1]) B d_L_law_278 (t_X10_leave N (xs ((x3 + 1) : Int32).toNatClampNeg) z269.2 g278) m_X10_leave w_WaterOthersLaw_31 (by decide) rfl rfl rfl rfl (Nat.le_of_ble_eq_true rfl) (by omega) (by decide) ?_
              refine g_icmp_eq (tgt := 890) B d_L_law_281 (by decide) h (fun h => ?_) (fun h => ?_)
              · refine g_iinc (v := (x3 + 6)) B d_L_law_890 rfl rfl (by decide) ?_
                refine g_goto (tgt := 18) B d_L_law_893 (by decide) ?_
                exact g_cut rfl (ih (x3 + 6) z278.2 h)
              · refine g_iconst (v := 0) B d_L_law_284 (by decide) ?_
                cases h
            · skip
              refine q_sw h (fun e33_4 h => ?_) (fun e33_4 h => ?_)
              · refine g_tswIn (c0 := 4) (tgt := 286) B d_L_law_33 e33_4 (by decide) (by decide) rfl (by decide) ?_
                refine g_aload_n B d_L_law_286 rfl rfl ?_
                refine g_aload_n B d_L_law_287 rfl rfl ?_
                refine g_iload_n B d_L_law_288 rfl rfl ?_
                refine g_iconst (v := 1) B d_L_law_289 (by decide) ?_
                refine g_iadd B d_L_law_290 ?_
                obtain ⟨h291, h⟩ := q_chk h
                refine g_sld B En d_L_law_291 h291 ?_
                obtain ⟨z292, g292, h⟩ := q_bind h
                refine g_callV (p0 := 68) (ci := 9) (As := [.int (xs ((x3 + 1) : Int32).toNatClampNeg)]) (rest := []) B d_L_law_292 (t_X9_say (xs ((x3 + 1) : Int32).toNatClampNeg) σ g292) m_X9_say w_WaterOthersLaw_32 (by decide) rfl rfl rfl rfl (Nat.le_of_ble_eq_true rfl) (by omega) (by decide) ?_
                refine g_aload_n B d_L_law_295 rfl rfl ?_
                refine g_aload_n B d_L_law_296 rfl rfl ?_
                refine g_iload_n B d_L_law_297 rfl rfl ?_
                refine g_iconst (v := 1) B d_L_law_298 (by decide) ?_
                refine g_iadd B d_L_law_299 ?_
                refine g_sld B En d_L_law_300 h291 ?_
                obtain ⟨z301, g301, h⟩ := q_bind h
                refine g_callV (p0 := 84) (ci := 10) (As := [.int (xs ((x3 + 1) : Int32).toNatClampNeg)]) (rest := [.int z292.1]) B d_L_law_301 (t_X10_say (xs ((x3 + 1) : Int32).toNatClampNeg) z292.2 g301) m_X10_say w_WaterOthersLaw_35 (by decide) rfl rfl rfl rfl (Nat.le_of_ble_eq_true rfl) (by omega) (by decide) ?_
                refine g_icmp_eq (tgt := 890) B d_L_law_304 (by decide) h (fun h => ?_) (fun h => ?_)
                · refine g_iinc (v := (x3 + 6)) B d_L_law_890 rfl rfl (by decide) ?_
                  refine g_goto (tgt := 18) B d_L_law_893 (by decide) ?_
                  exact g_cut rfl (ih (x3 + 6) z301.2 h)
                · refine g_iconst (v := 0) B d_L_law_307 (by decide) ?_
                  cases h
              · skip
                refine q_sw h (fun e33_5 h => ?_) (fun e33_5 h => ?_)
                · refine g_tswIn (c0 := 5) (tgt := 309) B d_L_law_33 e33_5 (by decide) (by decide) rfl (by decide) ?_
                  refine g_aload_n B d_L_law_309 rfl rfl ?_
                  refine g_callV (p0 := 68) (ci := 9) (As := []) (rest := []) B d_L_law_310 (t_X9_wipe σ rfl) m_X9_wipe w_WaterOthersLaw_36 (by decide) rfl rfl rfl rfl (Nat.le_of_ble_eq_true rfl) (by omega) (by decide) ?_
                  refine g_aload_n B d_L_law_313 rfl rfl ?_
                  refine g_callV (p0 := 84) (ci := 10) (As := []) (rest := [.int ((f_X9_wipe σ).1)]) B d_L_law_314 (t_X10_wipe ((f_X9_wipe σ).2) rfl) m_X10_wipe w_WaterOthersLaw_40 (by decide) rfl rfl rfl rfl (Nat.le_of_ble_eq_true rfl) (by omega) (by decide) ?_
                  refine g_icmp_eq (tgt := 890) B d_L_law_317 (by decide) h (fun h => ?_) (fun h => ?_)
                  · refine g_iinc (v := (x3 + 6)) B d_L_law_890 rfl rfl (by decide) ?_
                    refine g_goto (tgt := 18) B d_L_law_893 (by decide) ?_
                    exact g_cut rfl (ih (x3 + 6) ((f_X10_wipe ((f_X9_wipe σ).2)).2) h)
                  · refine g_iconst (v := 0) B d_L_law_320 (by decide) ?_
                    cases h
                · skip
                  refine q_sw h (fun e33_6 h => ?_) (fun e33_6 h => ?_)
                  · refine g_tswIn (c0 := 6) (tgt := 322) B d_L_law_33 e33_6 (by decide) (by decide) rfl (by decide) ?_
                    refine g_aload_n B d_L_law_322 rfl rfl ?_
                    obtain ⟨z323, g323, h⟩ := q_bind h
                    refine g_callV (p0 := 68) (ci := 9) (As := []) (rest := []) B d_L_law_323 (t_X9_fault N σ g323) m_X9_fault w_WaterOthersLaw_41 (by decide) rfl rfl rfl rfl (Nat.le_of_ble_eq_true rfl) (by omega) (by decide) ?_
                    refine g_aload_n B d_L_law_326 rfl rfl ?_
                    obtain ⟨z327, g327, h⟩ := q_bind h
                    refine g_callV (p0 := 84) (ci := 10) (As := []) (rest := [.int z323]) B d_L_law_327 (t_X10_fault N σ g327) m_X10_fault w_WaterOthersLaw_44 (by decide) rfl rfl rfl rfl (Nat.le_of_ble_eq_true rfl) (by omega) (by decide) ?_
                    refine g_icmp_eq (tgt := 890) B d_L_law_330 (by decide) h (fun h => ?_) (fun h => ?_)
                    · refine g_iinc (v := (x3 + 6)) B d_L_law_890 rfl rfl (by decide) ?_
                      refine g_goto (tgt := 18) B d_L_law_893 (by decide) ?_
                      exact g_cut rfl (ih (x3 + 6) σ h)
                    · refine g_iconst (v := 0) B d_L_law_333 (by decide) ?_
                      cases h
                  · skip
                    refine q_sw h (fun e33_7 h => ?_) (fun e33_7 h => ?_)
                    · refine g_tswIn (c0 := 7) (tgt := 335) B d_L_law_33 e33_7 (by decide) (by decide) rfl (by decide) ?_
                      refine g_aload_n B d_L_law_335 rfl rfl ?_
                      refine g_aload_n B d_L_law_336 rfl rfl ?_
                      refine g_iload_n B d_L_law_337 rfl rfl ?_
                      refine g_iconst (v := 1) B d_L_law_338 (by decide) ?_
                      refine g_iadd B d_L_law_339 ?_
                      obtain ⟨h340, h⟩ := q_chk h
                      refine g_sld B En d_L_law_340 h340 ?_
                      obtain ⟨z341, g341, h⟩ := q_bind h
                      refine g_callV (p0 := 68) (ci := 9) (As := [.int (xs ((x3 + 1) : Int32).toNatClampNeg)]) (rest := []) B d_L_law_341 (t_X9_judge N (xs ((x3 + 1) : Int32).toNatClampNeg) σ g341) m_X9_judge w_WaterOthersLaw_45 (by decide) rfl rfl rfl rfl (Nat.le_of_ble_eq_true rfl) (by omega) (by decide) ?_
                      refine g_aload_n B d_L_law_344 rfl rfl ?_
                      refine g_aload_n B d_L_law_345 rfl rfl ?_
                      refine g_iload_n B d_L_law_346 rfl rfl ?_
                      refine g_iconst (v := 1) B d_L_law_347 (by decide) ?_
                      refine g_iadd B d_L_law_348 ?_
                      refine g_sld B En d_L_law_349 h340 ?_
                      obtain ⟨z350, g350, h⟩ := q_bind h
                      refine g_callV (p0 := 84) (ci := 10) (As := [.int (xs ((x3 + 1) : Int32).toNatClampNeg)]) (rest := [.int z341.1]) B d_L_law_350 (t_X10_judge N (xs ((x3 + 1) : Int32).toNatClampNeg) z341.2 g350) m_X10_judge w_WaterOthersLaw_48 (by decide) rfl rfl rfl rfl (Nat.le_of_ble_eq_true rfl) (by omega) (by decide) ?_
                      refine g_icmp_eq (tgt := 890) B d_L_law_353 (by decide) h (fun h => ?_) (fun h => ?_)
                      · refine g_iinc (v := (x3 + 6)) B d_L_law_890 rfl rfl (by decide) ?_
                        refine g_goto (tgt := 18) B d_L_law_893 (by decide) ?_
                        exact g_cut rfl (ih (x3 + 6) z350.2 h)
                      · refine g_iconst (v := 0) B d_L_law_356 (by decide) ?_
                        cases h
                    · skip
                      refine q_sw h (fun e33_8 h => ?_) (fun e33_8 h => ?_)
                      · refine g_tswIn (c0 := 8) (tgt := 358) B d_L_law_33 e33_8 (by decide) (by decide) rfl (by decide) ?_
                        refine g_aload_n B d_L_law_358 rfl rfl ?_
                        obtain ⟨z359, g359, h⟩ := q_bind h
                        refine g_callV (p0 := 68) (ci := 9) (As := []) (rest := []) B d_L_law_359 (t_X9_done N σ g359) m_X9_done w_WaterOthersLaw_49 (by decide) rfl rfl rfl rfl (Nat.le_of_ble_eq_true rfl) (by omega) (by decide) ?_
                        refine g_aload_n B d_L_law_362 rfl rfl ?_
                        obtain ⟨z363, g363, h⟩ := q_bind h
                        refine g_callV (p0 := 84) (ci := 10) (As := []) (rest := [.int z359.1]) B d_L_law_363 (t_X10_done N z359.2 g363) m_X10_done w_WaterOthersLaw_52 (by decide) rfl rfl rfl rfl (Nat.le_of_ble_eq_true rfl) (by omega) (by decide) ?_
                        refine g_icmp_eq (tgt := 890) B d_L_law_366 (by decide) h (fun h => ?_) (fun h => ?_)
                        · refine g_iinc (v := (x3 + 6)) B d_L_law_890 rfl rfl (by decide) ?_
                          refine g_goto (tgt := 18) B d_L_law_893 (by decide) ?_
                          exact g_cut rfl (ih (x3 + 6) z363.2 h)
                        · refine g_iconst (v := 0) B d_L_law_369 (by decide) ?_
                          cases h
                      · skip
                        refine q_sw h (fun e33_9 h => ?_) (fun e33_9 h => ?_)
                        · refine g_tswIn (c0 := 9) (tgt := 371) B d_L_law_33 e33_9 (by decide) (by decide) rfl (by decide) ?_
                          refine g_aload_n B d_L_law_371 rfl rfl ?_
                          refine g_aload_n B d_L_law_372 rfl rfl ?_
                          refine g_iload_n B d_L_law_373 rfl rfl ?_
                          refine g_iconst (v := 1) B d_L_law_374 (by decide) ?_
                          refine g_iadd B d_L_law_375 ?_
                          obtain ⟨h376, h⟩ := q_chk h
                          refine g_sld B En d_L_law_376 h376 ?_
                          refine g_aload_n B d_L_law_377 rfl rfl ?_
                          refine g_iload_n B d_L_law_378 rfl rfl ?_
                          refine g_iconst (v := 2) B d_L_law_379 (by decide) ?_
                          refine g_iadd B d_L_law_380 ?_
                          obtain ⟨h381, h⟩ := q_chk h
                          refine g_sld B En d_L_law_381 h381 ?_
                          obtain ⟨z382, g382, h⟩ := q_bind h
                          refine g_callV (p0 := 68) (ci := 9) (As := [.int (xs ((x3 + 1) : Int32).toNatClampNeg), .int (xs ((x3 + 2) : Int32).toNatClampNeg)]) (rest := []) B d_L_law_382 (t_X9_behind N (xs ((x3 + 1) : Int32).toNatClampNeg) (xs ((x3 + 2) : Int32).toNatClampNeg) σ g382) m_X9_behind w_WaterOthersLaw_53 (by decide) rfl rfl rfl rfl (Nat.le_of_ble_eq_true rfl) (by omega) (by decide) ?_
                          refine g_aload_n B d_L_law_385 rfl rfl ?_
                          refine g_aload_n B d_L_law_386 rfl rfl ?_
                          refine g_iload_n B d_L_law_387 rfl rfl ?_
                          refine g_iconst (v := 1) B d_L_law_388 (by decide) ?_
                          refine g_iadd B d_L_law_389 ?_
                          refine g_sld B En d_L_law_390 h376 ?_
                          refine g_aload_n B d_L_law_391 rfl rfl ?_
                          refine g_iload_n B d_L_law_392 rfl rfl ?_
                          refine g_iconst (v := 2) B d_L_law_393 (by decide) ?_
                          refine g_iadd B d_L_law_394 ?_
                          refine g_sld B En d_L_law_395 h381 ?_
                          obtain ⟨z396, g396, h⟩ := q_bind h
                          refine g_callV (p0 := 84) (ci := 10) (As := [.int (xs ((x3 + 1) : Int32).toNatClampNeg), .int (xs ((x3 + 2) : Int32).toNatClampNeg)]) (rest := [.int z382.1]) B d_L_law_396 (t_X10_behind N (xs ((x3 + 1) : Int32).toNatClampNeg) (xs ((x3 + 2) : Int32).toNatClampNeg) z382.2 g396) m_X10_behind w_WaterOthersLaw_57 (by decide) rfl rfl rfl rfl (Nat.le_of_ble_eq_true rfl) (by omega) (by decide) ?_
                          refine g_icmp_eq (tgt := 890) B d_L_law_399 (by decide) h (fun h => ?_) (fun h => ?_)
                          · refine g_iinc (v := (x3 + 6)) B d_L_law_890 rfl rfl (by decide) ?_
                            refine g_goto (tgt := 18) B d_L_law_893 (by decide) ?_
                            exact g_cut rfl (ih (x3 + 6) z396.2 h)
                          · refine g_iconst (v := 0) B d_L_law_402 (by decide) ?_
                            cases h
                        · skip
                          refine q_sw h (fun e33_10 h => ?_) (fun e33_10 h => ?_)
                          · refine g_tswIn (c0 := 10) (tgt := 404) B d_L_law_33 e33_10 (by decide) (by decide) rfl (by decide) ?_
                            refine g_aload_n B d_L_law_404 rfl rfl ?_
                            refine g_aload_n B d_L_law_405 rfl rfl ?_
                            refine g_iload_n B d_L_law_406 rfl rfl ?_
                            refine g_iconst (v := 1) B d_L_law_407 (by decide) ?_
                            refine g_iadd B d_L_law_408 ?_
                            obtain ⟨h409, h⟩ := q_chk h
                            refine g_sld B En d_L_law_409 h409 ?_
                            obtain ⟨z410, g410, h⟩ := q_bind h
                            refine g_callV (p0 := 68) (ci := 9) (As := [.int (xs ((x3 + 1) : Int32).toNatClampNeg)]) (rest := []) B d_L_law_410 (t_X9_then N (xs ((x3 + 1) : Int32).toNatClampNeg) σ g410) m_X9_then w_WaterOthersLaw_58 (by decide) rfl rfl rfl rfl (Nat.le_of_ble_eq_true rfl) (by omega) (by decide) ?_
                            refine g_aload_n B d_L_law_413 rfl rfl ?_
                            refine g_aload_n B d_L_law_414 rfl rfl ?_
                            refine g_iload_n B d_L_law_415 rfl rfl ?_
                            refine g_iconst (v := 1) B d_L_law_416 (by decide) ?_
                            refine g_iadd B d_L_law_417 ?_
                            refine g_sld B En d_L_law_418 h409 ?_
                            obtain ⟨z419, g419, h⟩ := q_bind h
                            refine g_callV (p0 := 84) (ci := 10) (As := [.int (xs ((x3 + 1) : Int32).toNatClampNeg)]) (rest := [.int z410.1]) B d_L_law_419 (t_X10_then N (xs ((x3 + 1) : Int32).toNatClampNeg) z410.2 g419) m_X10_then w_WaterOthersLaw_61 (by decide) rfl rfl rfl rfl (Nat.le_of_ble_eq_true rfl) (by omega) (by decide) ?_
                            refine g_icmp_eq (tgt := 890) B d_L_law_422 (by decide) h (fun h => ?_) (fun h => ?_)
                            · refine g_iinc (v := (x3 + 6)) B d_L_law_890 rfl rfl (by decide) ?_
                              refine g_goto (tgt := 18) B d_L_law_893 (by decide) ?_
                              exact g_cut rfl (ih (x3 + 6) z419.2 h)
                            · refine g_iconst (v := 0) B d_L_law_425 (by decide) ?_
                              cases h
                          · skip
                            refine q_sw h (fun e33_11 h => ?_) (fun e33_11 h => ?_)
                            · refine g_tswIn (c0 := 11) (tgt := 427) B d_L_law_33 e33_11 (by decide) (by decide) rfl (by decide) ?_
                              refine g_aload_n B d_L_law_427 rfl rfl ?_
                              refine g_aload_n B d_L_law_428 rfl rfl ?_
                              refine g_iload_n B d_L_law_429 rfl rfl ?_
                              refine g_iconst (v := 1) B d_L_law_430 (by decide) ?_
                              refine g_iadd B d_L_law_431 ?_
                              obtain ⟨h432, h⟩ := q_chk h
                              refine g_sld B En d_L_law_432 h432 ?_
                              refine g_aload_n B d_L_law_433 rfl rfl ?_
                              refine g_iload_n B d_L_law_434 rfl rfl ?_
                              refine g_iconst (v := 2) B d_L_law_435 (by decide) ?_
                              refine g_iadd B d_L_law_436 ?_
                              obtain ⟨h437, h⟩ := q_chk h
                              refine g_sld B En d_L_law_437 h437 ?_
                              obtain ⟨z438, g438, h⟩ := q_bind h
                              refine g_callV (p0 := 68) (ci := 9) (As := [.int (xs ((x3 + 1) : Int32).toNatClampNeg), .int (xs ((x3 + 2) : Int32).toNatClampNeg)]) (rest := []) B d_L_law_438 (t_X9_standing N (xs ((x3 + 1) : Int32).toNatClampNeg) (xs ((x3 + 2) : Int32).toNatClampNeg) σ g438) m_X9_standing w_WaterOthersLaw_62 (by decide) rfl rfl rfl rfl (Nat.le_of_ble_eq_true rfl) (by omega) (by decide) ?_
                              refine g_aload_n B d_L_law_441 rfl rfl ?_
                              refine g_aload_n B d_L_law_442 rfl rfl ?_
                              refine g_iload_n B d_L_law_443 rfl rfl ?_
                              refine g_iconst (v := 1) B d_L_law_444 (by decide) ?_
                              refine g_iadd B d_L_law_445 ?_
                              refine g_sld B En d_L_law_446 h432 ?_
                              refine g_aload_n B d_L_law_447 rfl rfl ?_
                              refine g_iload_n B d_L_law_448 rfl rfl ?_
                              refine g_iconst (v := 2) B d_L_law_449 (by decide) ?_
                              refine g_iadd B d_L_law_450 ?_
                              refine g_sld B En d_L_law_451 h437 ?_
                              obtain ⟨z452, g452, h⟩ := q_bind h
                              refine g_callV (p0 := 84) (ci := 10) (As := [.int (xs ((x3 + 1) : Int32).toNatClampNeg), .int (xs ((x3 + 2) : Int32).toNatClampNeg)]) (rest := [.int z438]) B d_L_law_452 (t_X10_standing N (xs ((x3 + 1) : Int32).toNatClampNeg) (xs ((x3 + 2) : Int32).toNatClampNeg) σ g452) m_X10_standing w_WaterOthersLaw_65 (by decide) rfl rfl rfl rfl (Nat.le_of_ble_eq_true rfl) (by omega) (by decide) ?_
                              refine g_icmp_eq (tgt := 890) B d_L_law_455 (by decide) h (fun h => ?_) (fun h => ?_)
                              · refine g_iinc (v := (x3 + 6)) B d_L_law_890 rfl rfl (by decide) ?_
                                refine g_goto (tgt := 18) B d_L_law_893 (by decide) ?_
                                exact g_cut rfl (ih (x3 + 6) z452.2 h)
                              · refine g_iconst (v := 0) B d_L_law_458 (by decide) ?_
                                cases h
                            · skip
                              refine q_sw h (fun e33_12 h => ?_) (fun e33_12 h => ?_)
                              · refine g_tswIn (c0 := 12) (tgt := 460) B d_L_law_33 e33_12 (by decide) (by decide) rfl (by decide) ?_
                                refine g_aload_n B d_L_law_460 rfl rfl ?_
                                refine g_aload_n B d_L_law_461 rfl rfl ?_
                                refine g_iload_n B d_L_law_462 rfl rfl ?_
                                refine g_iconst (v := 1) B d_L_law_463 (by decide) ?_
                                refine g_iadd B d_L_law_464 ?_
                                obtain ⟨h465, h⟩ := q_chk h
                                refine g_sld B En d_L_law_465 h465 ?_
                                refine g_aload_n B d_L_law_466 rfl rfl ?_
                                refine g_iload_n B d_L_law_467 rfl rfl ?_
                                refine g_iconst (v := 2) B d_L_law_468 (by decide) ?_
                                refine g_iadd B d_L_law_469 ?_
                                obtain ⟨h470, h⟩ := q_chk h
                                refine g_sld B En d_L_law_470 h470 ?_
                                refine g_aload_n B d_L_law_471 rfl rfl ?_
                                refine g_iload_n B d_L_law_472 rfl rfl ?_
                                refine g_iconst (v := 3) B d_L_law_473 (by decide) ?_
                                refine g_iadd B d_L_law_474 ?_
                                obtain ⟨h475, h⟩ := q_chk h
                                refine g_sld B En d_L_law_475 h475 ?_
                                obtain ⟨z476, g476, h⟩ := q_bind h
                                refine g_callV (p0 := 68) (ci := 9) (As := [.int (xs ((x3 + 1) : Int32).toNatClampNeg), .int (xs ((x3 + 2) : Int32).toNatClampNeg), .int (xs ((x3 + 3) : Int32).toNatClampNeg)]) (rest := []) B d_L_law_476 (t_X9_trip N (xs ((x3 + 1) : Int32).toNatClampNeg) (xs ((x3 + 2) : Int32).toNatClampNeg) (xs ((x3 + 3) : Int32).toNatClampNeg) σ g476) m_X9_trip w_WaterOthersLaw_66 (by decide) rfl rfl rfl rfl (Nat.le_of_ble_eq_true rfl) (by omega) (by decide) ?_
                                refine g_aload_n B d_L_law_479 rfl rfl ?_
                                refine g_aload_n B d_L_law_480 rfl rfl ?_
                                refine g_iload_n B d_L_law_481 rfl rfl ?_
                                refine g_iconst (v := 1) B d_L_law_482 (by decide) ?_
                                refine g_iadd B d_L_law_483 ?_
                                refine g_sld B En d_L_law_484 h465 ?_
                                refine g_aload_n B d_L_law_485 rfl rfl ?_
                                refine g_iload_n B d_L_law_486 rfl rfl ?_
                                refine g_iconst (v := 2) B d_L_law_487 (by decide) ?_
                                refine g_iadd B d_L_law_488 ?_
                                refine g_sld B En d_L_law_489 h470 ?_
                                refine g_aload_n B d_L_law_490 rfl rfl ?_
                                refine g_iload_n B d_L_law_491 rfl rfl ?_
                                refine g_iconst (v := 3) B d_L_law_492 (by decide) ?_
                                refine g_iadd B d_L_law_493 ?_
                                refine g_sld B En d_L_law_494 h475 ?_
                                obtain ⟨z495, g495, h⟩ := q_bind h
                                refine g_callV (p0 := 84) (ci := 10) (As := [.int (xs ((x3 + 1) : Int32).toNatClampNeg), .int (xs ((x3 + 2) : Int32).toNatClampNeg), .int (xs ((x3 + 3) : Int32).toNatClampNeg)]) (rest := [.int z476.1]) B d_L_law_495 (t_X10_trip N (xs ((x3 + 1) : Int32).toNatClampNeg) (xs ((x3 + 2) : Int32).toNatClampNeg) (xs ((x3 + 3) : Int32).toNatClampNeg) z476.2 g495) m_X10_trip w_WaterOthersLaw_69 (by decide) rfl rfl rfl rfl (Nat.le_of_ble_eq_true rfl) (by omega) (by decide) ?_
                                refine g_icmp_eq (tgt := 890) B d_L_law_498 (by decide) h (fun h => ?_) (fun h => ?_)
                                · refine g_iinc (v := (x3 + 6)) B d_L_law_890 rfl rfl (by decide) ?_
                                  refine g_goto (tgt := 18) B d_L_law_893 (by decide) ?_
                                  exact g_cut rfl (ih (x3 + 6) z495.2 h)
                                · refine g_iconst (v := 0) B d_L_law_501 (by decide) ?_
                                  cases h
                              · skip
                                refine q_sw h (fun e33_13 h => ?_) (fun e33_13 h => ?_)
                                · refine g_tswIn (c0 := 13) (tgt := 503) B d_L_law_33 e33_13 (by decide) (by decide) rfl (by decide) ?_
                                  refine g_aload_n B d_L_law_503 rfl rfl ?_
                                  refine g_aload_n B d_L_law_504 rfl rfl ?_
                                  refine g_iload_n B d_L_law_505 rfl rfl ?_
                                  refine g_iconst (v := 1) B d_L_law_506 (by decide) ?_
                                  refine g_iadd B d_L_law_507 ?_
                                  obtain ⟨h508, h⟩ := q_chk h
                                  refine g_sld B En d_L_law_508 h508 ?_
                                  refine g_aload_n B d_L_law_509 rfl rfl ?_
                                  refine g_iload_n B d_L_law_510 rfl rfl ?_
                                  refine g_iconst (v := 2) B d_L_law_511 (by decide) ?_
                                  refine g_iadd B d_L_law_512 ?_
                                  obtain ⟨h513, h⟩ := q_chk h
                                  refine g_sld B En d_L_law_513 h513 ?_
                                  obtain ⟨z514, g514, h⟩ := q_bind h
                                  refine g_callV (p0 := 68) (ci := 9) (As := [.int (xs ((x3 + 1) : Int32).toNatClampNeg), .int (xs ((x3 + 2) : Int32).toNatClampNeg)]) (rest := []) B d_L_law_514 (t_X9_again N (xs ((x3 + 1) : Int32).toNatClampNeg) (xs ((x3 + 2) : Int32).toNatClampNeg) σ g514) m_X9_again w_WaterOthersLaw_70 (by decide) rfl rfl rfl rfl (Nat.le_of_ble_eq_true rfl) (by omega) (by decide) ?_
                                  refine g_aload_n B d_L_law_517 rfl rfl ?_
                                  refine g_aload_n B d_L_law_518 rfl rfl ?_
                                  refine g_iload_n B d_L_law_519 rfl rfl ?_
                                  refine g_iconst (v := 1) B d_L_law_520 (by decide) ?_
                                  refine g_iadd B d_L_law_521 ?_
                                  refine g_sld B En d_L_law_522 h508 ?_
                                  refine g_aload_n B d_L_law_523 rfl rfl ?_
                                  refine g_iload_n B d_L_law_524 rfl rfl ?_
                                  refine g_iconst (v := 2) B d_L_law_525 (by decide) ?_
                                  refine g_iadd B d_L_law_526 ?_
                                  refine g_sld B En d_L_law_527 h513 ?_
                                  obtain ⟨z528, g528, h⟩ := q_bind h
                                  refine g_callV (p0 := 84) (ci := 10) (As := [.int (xs ((x3 + 1) : Int32).toNatClampNeg), .int (xs ((x3 + 2) : Int32).toNatClampNeg)]) (rest := [.int z514]) B d_L_law_528 (t_X10_again N (xs ((x3 + 1) : Int32).toNatClampNeg) (xs ((x3 + 2) : Int32).toNatClampNeg) σ g528) m_X10_again w_WaterOthersLaw_73 (by decide) rfl rfl rfl rfl (Nat.le_of_ble_eq_true rfl) (by omega) (by decide) ?_
                                  refine g_icmp_eq (tgt := 890) B d_L_law_531 (by decide) h (fun h => ?_) (fun h => ?_)
                                  · refine g_iinc (v := (x3 + 6)) B d_L_law_890 rfl rfl (by decide) ?_
                                    refine g_goto (tgt := 18) B d_L_law_893 (by decide) ?_
                                    exact g_cut rfl (ih (x3 + 6) z528.2 h)
                                  · refine g_iconst (v := 0) B d_L_law_534 (by decide) ?_
                                    cases h
                                · skip
                                  refine q_sw h (fun e33_14 h => ?_) (fun e33_14 h => ?_)
                                  · refine g_tswIn (c0 := 14) (tgt := 536) B d_L_law_33 e33_14 (by decide) (by decide) rfl (by decide) ?_
                                    refine g_aload_n B d_L_law_536 rfl rfl ?_
                                    refine g_aload_n B d_L_law_537 rfl rfl ?_
                                    refine g_iload_n B d_L_law_538 rfl rfl ?_
                                    refine g_iconst (v := 1) B d_L_law_539 (by decide) ?_
                                    refine g_iadd B d_L_law_540 ?_
                                    obtain ⟨h541, h⟩ := q_chk h
                                    refine g_sld B En d_L_law_541 h541 ?_
                                    refine g_aload_n B d_L_law_542 rfl rfl ?_
                                    refine g_iload_n B d_L_law_543 rfl rfl ?_
                                    refine g_iconst (v := 2) B d_L_law_544 (by decide) ?_
                                    refine g_iadd B d_L_law_545 ?_
                                    obtain ⟨h546, h⟩ := q_chk h
                                    refine g_sld B En d_L_law_546 h546 ?_
                                    refine g_aload_n B d_L_law_547 rfl rfl ?_
                                    refine g_iload_n B d_L_law_548 rfl rfl ?_
                                    refine g_iconst (v := 3) B d_L_law_549 (by decide) ?_
                                    refine g_iadd B d_L_law_550 ?_
                                    obtain ⟨h551, h⟩ := q_chk h
                                    refine g_sld B En d_L_law_551 h551 ?_
                                    obtain ⟨z552, g552, h⟩ := q_bind h
                                    refine g_callV (p0 := 68) (ci := 9) (As := [.int (xs ((x3 + 1) : Int32).toNatClampNeg), .int (xs ((x3 + 2) : Int32).toNatClampNeg), .int (xs ((x3 + 3) : Int32).toNatClampNeg)]) (rest := []) B d_L_law_552 (t_X9_order N (xs ((x3 + 1) : Int32).toNatClampNeg) (xs ((x3 + 2) : Int32).toNatClampNeg) (xs ((x3 + 3) : Int32).toNatClampNeg) σ g552) m_X9_order w_WaterOthersLaw_74 (by decide) rfl rfl rfl rfl (Nat.le_of_ble_eq_true rfl) (by omega) (by decide) ?_
                                    refine g_aload_n B d_L_law_555 rfl rfl ?_
                                    refine g_aload_n B d_L_law_556 rfl rfl ?_
                                    refine g_iload_n B d_L_law_557 rfl rfl ?_
                                    refine g_iconst (v := 1) B d_L_law_558 (by decide) ?_
                                    refine g_iadd B d_L_law_559 ?_
                                    refine g_sld B En d_L_law_560 h541 ?_
                                    refine g_aload_n B d_L_law_561 rfl rfl ?_
                                    refine g_iload_n B d_L_law_562 rfl rfl ?_
                                    refine g_iconst (v := 2) B d_L_law_563 (by decide) ?_
                                    refine g_iadd B d_L_law_564 ?_
                                    refine g_sld B En d_L_law_565 h546 ?_
                                    refine g_aload_n B d_L_law_566 rfl rfl ?_
                                    refine g_iload_n B d_L_law_567 rfl rfl ?_
                                    refine g_iconst (v := 3) B d_L_law_568 (by decide) ?_
                                    refine g_iadd B d_L_law_569 ?_
                                    refine g_sld B En d_L_law_570 h551 ?_
                                    obtain ⟨z571, g571, h⟩ := q_bind h
                                    refine g_callV (p0 := 84) (ci := 10) (As := [.int (xs ((x3 + 1) : Int32).toNatClampNeg), .int (xs ((x3 + 2) : Int32).toNatClampNeg), .int (xs ((x3 + 3) : Int32).toNatClampNeg)]) (rest := [.int z552.1]) B d_L_law_571 (t_X10_order N (xs ((x3 + 1) : Int32).toNatClampNeg) (xs ((x3 + 2) : Int32).toNatClampNeg) (xs ((x3 + 3) : Int32).toNatClampNeg) z552.2 g571) m_X10_order w_WaterOthersLaw_77 (by decide) rfl rfl rfl rfl (Nat.le_of_ble_eq_true rfl) (by omega) (by decide) ?_
                                    refine g_icmp_eq (tgt := 890) B d_L_law_574 (by decide) h (fun h => ?_) (fun h => ?_)
                                    · refine g_iinc (v := (x3 + 6)) B d_L_law_890 rfl rfl (by decide) ?_
                                      refine g_goto (tgt := 18) B d_L_law_893 (by decide) ?_
                                      exact g_cut rfl (ih (x3 + 6) z552.2 h)
                                    · refine g_iconst (v := 0) B d_L_law_577 (by decide) ?_
                                      cases h
                                  · skip
                                    refine q_sw h (fun e33_15 h => ?_) (fun e33_15 h => ?_)
                                    · refine g_tswIn (c0 := 15) (tgt := 579) B d_L_law_33 e33_15 (by decide) (by decide) rfl (by decide) ?_
                                      refine g_aload_n B d_L_law_579 rfl rfl ?_
                                      refine g_aload_n B d_L_law_580 rfl rfl ?_
                                      refine g_iload_n B d_L_law_581 rfl rfl ?_
                                      refine g_iconst (v := 1) B d_L_law_582 (by decide) ?_
                                      refine g_iadd B d_L_law_583 ?_
                                      obtain ⟨h584, h⟩ := q_chk h
                                      refine g_sld B En d_L_law_584 h584 ?_
                                      refine g_aload_n B d_L_law_585 rfl rfl ?_
                                      refine g_iload_n B d_L_law_586 rfl rfl ?_
                                      refine g_iconst (v := 2) B d_L_law_587 (by decide) ?_
                                      refine g_iadd B d_L_law_588 ?_
                                      obtain ⟨h589, h⟩ := q_chk h
                                      refine g_sld B En d_L_law_589 h589 ?_
                                      obtain ⟨z590, g590, h⟩ := q_bind h
                                      refine g_callV (p0 := 68) (ci := 9) (As := [.int (xs ((x3 + 1) : Int32).toNatClampNeg), .int (xs ((x3 + 2) : Int32).toNatClampNeg)]) (rest := []) B d_L_law_590 (t_X9_seen (xs ((x3 + 1) : Int32).toNatClampNeg) (xs ((x3 + 2) : Int32).toNatClampNeg) σ g590) m_X9_seen w_WaterOthersLaw_78 (by decide) rfl rfl rfl rfl (Nat.le_of_ble_eq_true rfl) (by omega) (by decide) ?_
                                      refine g_aload_n B d_L_law_593 rfl rfl ?_
                                      refine g_aload_n B d_L_law_594 rfl rfl ?_
                                      refine g_iload_n B d_L_law_595 rfl rfl ?_
                                      refine g_iconst (v := 1) B d_L_law_596 (by decide) ?_
                                      refine g_iadd B d_L_law_597 ?_
                                      refine g_sld B En d_L_law_598 h584 ?_
                                      refine g_aload_n B d_L_law_599 rfl rfl ?_
                                      refine g_iload_n B d_L_law_600 rfl rfl ?_
                                      refine g_iconst (v := 2) B d_L_law_601 (by decide) ?_
                                      refine g_iadd B d_L_law_602 ?_
                                      refine g_sld B En d_L_law_603 h589 ?_
                                      obtain ⟨z604, g604, h⟩ := q_bind h
                                      refine g_callV (p0 := 84) (ci := 10) (As := [.int (xs ((x3 + 1) : Int32).toNatClampNeg), .int (xs ((x3 + 2) : Int32).toNatClampNeg)]) (rest := [.int z590.1]) B d_L_law_604 (t_X10_seen (xs ((x3 + 1) : Int32).toNatClampNeg) (xs ((x3 + 2) : Int32).toNatClampNeg) z590.2 g604) m_X10_seen w_WaterOthersLaw_81 (by decide) rfl rfl rfl rfl (Nat.le_of_ble_eq_true rfl) (by omega) (by decide) ?_
                                      refine g_icmp_eq (tgt := 890) B d_L_law_607 (by decide) h (fun h => ?_) (fun h => ?_)
                                      · refine g_iinc (v := (x3 + 6)) B d_L_law_890 rfl rfl (by decide) ?_
                                        refine g_goto (tgt := 18) B d_L_law_893 (by decide) ?_
                                        exact g_cut rfl (ih (x3 + 6) z604.2 h)
                                      · refine g_iconst (v := 0) B d_L_law_610 (by decide) ?_
                                        cases h
                                    · skip
                                      refine q_sw h (fun e33_16 h => ?_) (fun e33_16 h => ?_)
                                      · refine g_tswIn (c0 := 16) (tgt := 612) B d_L_law_33 e33_16 (by decide) (by decide) rfl (by decide) ?_
                                        refine g_aload_n B d_L_law_612 rfl rfl ?_
                                        refine g_callV (p0 := 68) (ci := 9) (As := []) (rest := []) B d_L_law_613 (t_X9_forget σ rfl) m_X9_forget w_WaterOthersLaw_82 (by decide) rfl rfl rfl rfl (Nat.le_of_ble_eq_true rfl) (by omega) (by decide) ?_
                                        refine g_aload_n B d_L_law_616 rfl rfl ?_
                                        refine g_callV (p0 := 84) (ci := 10) (As := []) (rest := [.int ((f_X9_forget σ).1)]) B d_L_law_617 (t_X10_forget ((f_X9_forget σ).2) rfl) m_X10_forget w_WaterOthersLaw_85 (by decide) rfl rfl rfl rfl (Nat.le_of_ble_eq_true rfl) (by omega) (by decide) ?_
                                        refine g_icmp_eq (tgt := 890) B d_L_law_620 (by decide) h (fun h => ?_) (fun h => ?_)
                                        · refine g_iinc (v := (x3 + 6)) B d_L_law_890 rfl rfl (by decide) ?_
                                          refine g_goto (tgt := 18) B d_L_law_893 (by decide) ?_
                                          exact g_cut rfl (ih (x3 + 6) ((f_X10_forget ((f_X9_forget σ).2)).2) h)
                                        · refine g_iconst (v := 0) B d_L_law_623 (by decide) ?_
                                          cases h
                                      · skip
                                        refine q_sw h (fun e33_17 h => ?_) (fun e33_17 h => ?_)
                                        · refine g_tswIn (c0 := 17) (tgt := 625) B d_L_law_33 e33_17 (by decide) (by decide) rfl (by decide) ?_
                                          refine g_aload_n B d_L_law_625 rfl rfl ?_
                                          refine g_aload_n B d_L_law_626 rfl rfl ?_
                                          refine g_iload_n B d_L_law_627 rfl rfl ?_
                                          refine g_iconst (v := 1) B d_L_law_628 (by decide) ?_
                                          refine g_iadd B d_L_law_629 ?_
                                          obtain ⟨h630, h⟩ := q_chk h
                                          refine g_sld B En d_L_law_630 h630 ?_
                                          obtain ⟨z631, g631, h⟩ := q_bind h
                                          refine g_callV (p0 := 68) (ci := 9) (As := [.int (xs ((x3 + 1) : Int32).toNatClampNeg)]) (rest := []) B d_L_law_631 (t_X9_fits N (xs ((x3 + 1) : Int32).toNatClampNeg) σ g631) m_X9_fits w_WaterOthersLaw_86 (by decide) rfl rfl rfl rfl (Nat.le_of_ble_eq_true rfl) (by omega) (by decide) ?_
                                          refine g_aload_n B d_L_law_634 rfl rfl ?_
                                          refine g_aload_n B d_L_law_635 rfl rfl ?_
                                          refine g_iload_n B d_L_law_636 rfl rfl ?_
                                          refine g_iconst (v := 1) B d_L_law_637 (by decide) ?_
                                          refine g_iadd B d_L_law_638 ?_
                                          refine g_sld B En d_L_law_639 h630 ?_
                                          obtain ⟨z640, g640, h⟩ := q_bind h
                                          refine g_callV (p0 := 84) (ci := 10) (As := [.int (xs ((x3 + 1) : Int32).toNatClampNeg)]) (rest := [.int z631]) B d_L_law_640 (t_X10_fits N (xs ((x3 + 1) : Int32).toNatClampNeg) σ g640) m_X10_fits w_WaterOthersLaw_89 (by decide) rfl rfl rfl rfl (Nat.le_of_ble_eq_true rfl) (by omega) (by decide) ?_
                                          refine g_icmp_eq (tgt := 890) B d_L_law_643 (by decide) h (fun h => ?_) (fun h => ?_)
                                          · refine g_iinc (v := (x3 + 6)) B d_L_law_890 rfl rfl (by decide) ?_
                                            refine g_goto (tgt := 18) B d_L_law_893 (by decide) ?_
                                            exact g_cut rfl (ih (x3 + 6) σ h)
                                          · refine g_iconst (v := 0) B d_L_law_646 (by decide) ?_
                                            cases h
                                        · skip
                                          refine q_sw h (fun e33_18 h => ?_) (fun e33_18 h => ?_)
                                          · refine g_tswIn (c0 := 18) (tgt := 648) B d_L_law_33 e33_18 (by decide) (by decide) rfl (by decide) ?_
                                            refine g_aload_n B d_L_law_648 rfl rfl ?_
                                            refine g_aload_n B d_L_law_649 rfl rfl ?_
                                            refine g_iload_n B d_L_law_650 rfl rfl ?_
                                            refine g_iconst (v := 1) B d_L_law_651 (by decide) ?_
                                            refine g_iadd B d_L_law_652 ?_
                                            obtain ⟨h653, h⟩ := q_chk h
                                            refine g_sld B En d_L_law_653 h653 ?_
                                            obtain ⟨z654, g654, h⟩ := q_bind h
                                            refine g_callV (p0 := 68) (ci := 9) (As := [.int (xs ((x3 + 1) : Int32).toNatClampNeg)]) (rest := []) B d_L_law_654 (t_X9_ask N (xs ((x3 + 1) : Int32).toNatClampNeg) σ g654) m_X9_ask w_WaterOthersLaw_90 (by decide) rfl rfl rfl rfl (Nat.le_of_ble_eq_true rfl) (by omega) (by decide) ?_
                                            refine g_aload_n B d_L_law_657 rfl rfl ?_
                                            refine g_aload_n B d_L_law_658 rfl rfl ?_
                                            refine g_iload_n B d_L_law_659 rfl rfl ?_
                                            refine g_iconst (v := 1) B d_L_law_660 (by decide) ?_
                                            refine g_iadd B d_L_law_661 ?_
                                            refine g_sld B En d_L_law_662 h653 ?_
                                            obtain ⟨z663, g663, h⟩ := q_bind h
                                            refine g_callV (p0 := 84) (ci := 10) (As := [.int (xs ((x3 + 1) : Int32).toNatClampNeg)]) (rest := [.int z654.1]) B d_L_law_663 (t_X10_ask N (xs ((x3 + 1) : Int32).toNatClampNeg) z654.2 g663) m_X10_ask w_WaterOthersLaw_93 (by decide) rfl rfl rfl rfl (Nat.le_of_ble_eq_true rfl) (by omega) (by decide) ?_
                                            refine g_icmp_eq (tgt := 890) B d_L_law_666 (by decide) h (fun h => ?_) (fun h => ?_)
                                            · refine g_iinc (v := (x3 + 6)) B d_L_law_890 rfl rfl (by decide) ?_
                                              refine g_goto (tgt := 18) B d_L_law_893 (by decide) ?_
                                              exact g_cut rfl (ih (x3 + 6) z663.2 h)
                                            · refine g_iconst (v := 0) B d_L_law_669 (by decide) ?_
                                              cases h
                                          · skip
                                            refine q_sw h (fun e33_19 h => ?_) (fun e33_19 h => ?_)
                                            · refine g_tswIn (c0 := 19) (tgt := 671) B d_L_law_33 e33_19 (by decide) (by decide) rfl (by decide) ?_
                                              refine g_aload_n B d_L_law_671 rfl rfl ?_
                                              refine g_aload_n B d_L_law_672 rfl rfl ?_
                                              refine g_iload_n B d_L_law_673 rfl rfl ?_
                                              refine g_iconst (v := 1) B d_L_law_674 (by decide) ?_
                                              refine g_iadd B d_L_law_675 ?_
                                              obtain ⟨h676, h⟩ := q_chk h
                                              refine g_sld B En d_L_law_676 h676 ?_
                                              refine g_aload_n B d_L_law_677 rfl rfl ?_
                                              refine g_iload_n B d_L_law_678 rfl rfl ?_
                                              refine g_iconst (v := 2) B d_L_law_679 (by decide) ?_
                                              refine g_iadd B d_L_law_680 ?_
                                              obtain ⟨h681, h⟩ := q_chk h
                                              refine g_sld B En d_L_law_681 h681 ?_
                                              refine g_aload_n B d_L_law_682 rfl rfl ?_
                                              refine g_iload_n B d_L_law_683 rfl rfl ?_
                                              refine g_iconst (v := 3) B d_L_law_684 (by decide) ?_
                                              refine g_iadd B d_L_law_685 ?_
                                              obtain ⟨h686, h⟩ := q_chk h
                                              refine g_sld B En d_L_law_686 h686 ?_
                                              obtain ⟨z687, g687, h⟩ := q_bind h
                                              refine g_callV (p0 := 68) (ci := 9) (As := [.int (xs ((x3 + 1) : Int32).toNatClampNeg), .int (xs ((x3 + 2) : Int32).toNatClampNeg), .int (xs ((x3 + 3) : Int32).toNatClampNeg)]) (rest := []) B d_L_law_687 (t_X9_lengths N (xs ((x3 + 1) : Int32).toNatClampNeg) (xs ((x3 + 2) : Int32).toNatClampNeg) (xs ((x3 + 3) : Int32).toNatClampNeg) σ g687) m_X9_lengths w_WaterOthersLaw_94 (by decide) rfl rfl rfl rfl (Nat.le_of_ble_eq_true rfl) (by omega) (by decide) ?_
                                              refine g_aload_n B d_L_law_690 rfl rfl ?_
                                              refine g_aload_n B d_L_law_691 rfl rfl ?_
                                              refine g_iload_n B d_L_law_692 rfl rfl ?_
                                              refine g_iconst (v := 1) B d_L_law_693 (by decide) ?_
                                              refine g_iadd B d_L_law_694 ?_
                                              refine g_sld B En d_L_law_695 h676 ?_
                                              refine g_aload_n B d_L_law_696 rfl rfl ?_
                                              refine g_iload_n B d_L_law_697 rfl rfl ?_
                                              refine g_iconst (v := 2) B d_L_law_698 (by decide) ?_
                                              refine g_iadd B d_L_law_699 ?_
                                              refine g_sld B En d_L_law_700 h681 ?_
                                              refine g_aload_n B d_L_law_701 rfl rfl ?_
                                              refine g_iload_n B d_L_law_702 rfl rfl ?_
                                              refine g_iconst (v := 3) B d_L_law_703 (by decide) ?_
                                              refine g_iadd B d_L_law_704 ?_
                                              refine g_sld B En d_L_law_705 h686 ?_
                                              obtain ⟨z706, g706, h⟩ := q_bind h
                                              refine g_callV (p0 := 84) (ci := 10) (As := [.int (xs ((x3 + 1) : Int32).toNatClampNeg), .int (xs ((x3 + 2) : Int32).toNatClampNeg), .int (xs ((x3 + 3) : Int32).toNatClampNeg)]) (rest := [.int z687]) B d_L_law_706 (t_X10_lengths N (xs ((x3 + 1) : Int32).toNatClampNeg) (xs ((x3 + 2) : Int32).toNatClampNeg) (xs ((x3 + 3) : Int32).toNatClampNeg) σ g706) m_X10_lengths w_WaterOthersLaw_97 (by decide) rfl rfl rfl rfl (Nat.le_of_ble_eq_true rfl) (by omega) (by decide) ?_
                                              refine g_icmp_eq (tgt := 890) B d_L_law_709 (by decide) h (fun h => ?_) (fun h => ?_)
                                              · refine g_iinc (v := (x3 + 6)) B d_L_law_890 rfl rfl (by decide) ?_
                                                refine g_goto (tgt := 18) B d_L_law_893 (by decide) ?_
                                                exact g_cut rfl (ih (x3 + 6) σ h)
                                              · refine g_iconst (v := 0) B d_L_law_712 (by decide) ?_
                                                cases h
                                            · skip
                                              refine q_sw h (fun e33_20 h => ?_) (fun e33_20 h => ?_)
                                              · refine g_tswIn (c0 := 20) (tgt := 714) B d_L_law_33 e33_20 (by decide) (by decide) rfl (by decide) ?_
                                                refine g_aload_n B d_L_law_714 rfl rfl ?_
                                                refine g_aload_n B d_L_law_715 rfl rfl ?_
                                                refine g_iload_n B d_L_law_716 rfl rfl ?_
                                                refine g_iconst (v := 1) B d_L_law_717 (by decide) ?_
                                                refine g_iadd B d_L_law_718 ?_
                                                obtain ⟨h719, h⟩ := q_chk h
                                                refine g_sld B En d_L_law_719 h719 ?_
                                                refine g_aload_n B d_L_law_720 rfl rfl ?_
                                                refine g_iload_n B d_L_law_721 rfl rfl ?_
                                                refine g_iconst (v := 2) B d_L_law_722 (by decide) ?_
                                                refine g_iadd B d_L_law_723 ?_
                                                obtain ⟨h724, h⟩ := q_chk h
                                                refine g_sld B En d_L_law_724 h724 ?_
                                                refine g_aload_n B d_L_law_725 rfl rfl ?_
                                                refine g_iload_n B d_L_law_726 rfl rfl ?_
                                                refine g_iconst (v := 3) B d_L_law_727 (by decide) ?_
                                                refine g_iadd B d_L_law_728 ?_
                                                obtain ⟨h729, h⟩ := q_chk h
                                                refine g_sld B En d_L_law_729 h729 ?_
                                                refine g_aload_n B d_L_law_730 rfl rfl ?_
                                                refine g_iload_n B d_L_law_731 rfl rfl ?_
                                                refine g_iconst (v := 4) B d_L_law_732 (by decide) ?_
                                                refine g_iadd B d_L_law_733 ?_
                                                obtain ⟨h734, h⟩ := q_chk h
                                                refine g_sld B En d_L_law_734 h734 ?_
                                                refine g_aload_n B d_L_law_735 rfl rfl ?_
                                                refine g_iload_n B d_L_law_736 rfl rfl ?_
                                                refine g_iconst (v := 5) B d_L_law_737 (by decide) ?_
                                                refine g_iadd B d_L_law_738 ?_
                                                obtain ⟨h739, h⟩ := q_chk h
                                                refine g_sld B En d_L_law_739 h739 ?_
                                                obtain ⟨z740, g740, h⟩ := q_bind h
                                                refine g_callV (p0 := 68) (ci := 9) (As := [.int (xs ((x3 + 1) : Int32).toNatClampNeg), .int (xs ((x3 + 2) : Int32).toNatClampNeg), .int (xs ((x3 + 3) : Int32).toNatClampNeg), .int (xs ((x3 + 4) : Int32).toNatClampNeg), .int (xs ((x3 + 5) : Int32).toNatClampNeg)]) (rest := []) B d_L_law_740 (t_X9_calm N (xs ((x3 + 1) : Int32).toNatClampNeg) (xs ((x3 + 2) : Int32).toNatClampNeg) (xs ((x3 + 3) : Int32).toNatClampNeg) (xs ((x3 + 4) : Int32).toNatClampNeg) (xs ((x3 + 5) : Int32).toNatClampNeg) σ g740) m_X9_calm w_WaterOthersLaw_98 (by decide) rfl rfl rfl rfl (Nat.le_of_ble_eq_true rfl) (by omega) (by decide) ?_
                                                refine g_aload_n B d_L_law_743 rfl rfl ?_
                                                refine g_aload_n B d_L_law_744 rfl rfl ?_
                                                refine g_iload_n B d_L_law_745 rfl rfl ?_
                                                refine g_iconst (v := 1) B d_L_law_746 (by decide) ?_
                                                refine g_iadd B d_L_law_747 ?_
                                                refine g_sld B En d_L_law_748 h719 ?_
                                                refine g_aload_n B d_L_law_749 rfl rfl ?_
                                                refine g_iload_n B d_L_law_750 rfl rfl ?_
                                                refine g_iconst (v := 2) B d_L_law_751 (by decide) ?_
                                                refine g_iadd B d_L_law_752 ?_
                                                refine g_sld B En d_L_law_753 h724 ?_
                                                refine g_aload_n B d_L_law_754 rfl rfl ?_
                                                refine g_iload_n B d_L_law_755 rfl rfl ?_
                                                refine g_iconst (v := 3) B d_L_law_756 (by decide) ?_
                                                refine g_iadd B d_L_law_757 ?_
                                                refine g_sld B En d_L_law_758 h729 ?_
                                                refine g_aload_n B d_L_law_759 rfl rfl ?_
                                                refine g_iload_n B d_L_law_760 rfl rfl ?_
                                                refine g_iconst (v := 4) B d_L_law_761 (by decide) ?_
                                                refine g_iadd B d_L_law_762 ?_
                                                refine g_sld B En d_L_law_763 h734 ?_
                                                refine g_aload_n B d_L_law_764 rfl rfl ?_
                                                refine g_iload_n B d_L_law_765 rfl rfl ?_
                                                refine g_iconst (v := 5) B d_L_law_766 (by decide) ?_
                                                refine g_iadd B d_L_law_767 ?_
                                                refine g_sld B En d_L_law_768 h739 ?_
                                                obtain ⟨z769, g769, h⟩ := q_bind h
                                                refine g_callV (p0 := 84) (ci := 10) (As := [.int (xs ((x3 + 1) : Int32).toNatClampNeg), .int (xs ((x3 + 2) : Int32).toNatClampNeg), .int (xs ((x3 + 3) : Int32).toNatClampNeg), .int (xs ((x3 + 4) : Int32).toNatClampNeg), .int (xs ((x3 + 5) : Int32).toNatClampNeg)]) (rest := [.long z740.1]) B d_L_law_769 (t_X10_calm N (xs ((x3 + 1) : Int32).toNatClampNeg) (xs ((x3 + 2) : Int32).toNatClampNeg) (xs ((x3 + 3) : Int32).toNatClampNeg) (xs ((x3 + 4) : Int32).toNatClampNeg) (xs ((x3 + 5) : Int32).toNatClampNeg) z740.2 g769) m_X10_calm w_WaterOthersLaw_102 (by decide) rfl rfl rfl rfl (Nat.le_of_ble_eq_true rfl) (by omega) (by decide) ?_
                                                refine g_lcmp B d_L_law_772 ?_
                                                refine g_if_eq (tgt := 890) B d_L_law_773 (by decide) h (fun h => ?_) (fun h => ?_)
                                                · refine g_iinc (v := (x3 + 6)) B d_L_law_890 rfl rfl (by decide) ?_
                                                  refine g_goto (tgt := 18) B d_L_law_893 (by decide) ?_
                                                  exact g_cut rfl (ih (x3 + 6) z769.2 h)
                                                · refine g_iconst (v := 0) B d_L_law_776 (by decide) ?_
                                                  cases h
                                              · skip
                                                refine q_sw h (fun e33_21 h => ?_) (fun e33_21 h => ?_)
                                                · refine g_tswIn (c0 := 21) (tgt := 778) B d_L_law_33 e33_21 (by decide) (by decide) rfl (by decide) ?_
                                                  refine g_aload_n B d_L_law_778 rfl rfl ?_
                                                  refine g_aload_n B d_L_law_779 rfl rfl ?_
                                                  refine g_iload_n B d_L_law_780 rfl rfl ?_
                                                  refine g_iconst (v := 1) B d_L_law_781 (by decide) ?_
                                                  refine g_iadd B d_L_law_782 ?_
                                                  obtain ⟨h783, h⟩ := q_chk h
                                                  refine g_sld B En d_L_law_783 h783 ?_
                                                  refine g_aload_n B d_L_law_784 rfl rfl ?_
                                                  refine g_iload_n B d_L_law_785 rfl rfl ?_
                                                  refine g_iconst (v := 2) B d_L_law_786 (by decide) ?_
                                                  refine g_iadd B d_L_law_787 ?_
                                                  obtain ⟨h788, h⟩ := q_chk h
                                                  refine g_sld B En d_L_law_788 h788 ?_
                                                  refine g_aload_n B d_L_law_789 rfl rfl ?_
                                                  refine g_iload_n B d_L_law_790 rfl rfl ?_
                                                  refine g_iconst (v := 3) B d_L_law_791 (by decide) ?_
                                                  refine g_iadd B d_L_law_792 ?_
                                                  obtain ⟨h793, h⟩ := q_chk h
                                                  refine g_sld B En d_L_law_793 h793 ?_
                                                  obtain ⟨z794, g794, h⟩ := q_bind h
                                                  refine g_callV (p0 := 68) (ci := 9) (As := [.int (xs ((x3 + 1) : Int32).toNatClampNeg), .int (xs ((x3 + 2) : Int32).toNatClampNeg), .int (xs ((x3 + 3) : Int32).toNatClampNeg)]) (rest := []) B d_L_law_794 (t_X9_year N (xs ((x3 + 1) : Int32).toNatClampNeg) (xs ((x3 + 2) : Int32).toNatClampNeg) (xs ((x3 + 3) : Int32).toNatClampNeg) σ g794) m_X9_year w_WaterOthersLaw_103 (by decide) rfl rfl rfl rfl (Nat.le_of_ble_eq_true rfl) (by omega) (by decide) ?_
                                                  refine g_aload_n B d_L_law_797 rfl rfl ?_
                                                  refine g_aload_n B d_L_law_798 rfl rfl ?_
                                                  refine g_iload_n B d_L_law_799 rfl rfl ?_
                                                  refine g_iconst (v := 1) B d_L_law_800 (by decide) ?_
                                                  refine g_iadd B d_L_law_801 ?_
                                                  refine g_sld B En d_L_law_802 h783 ?_
                                                  refine g_aload_n B d_L_law_803 rfl rfl ?_
                                                  refine g_iload_n B d_L_law_804 rfl rfl ?_
                                                  refine g_iconst (v := 2) B d_L_law_805 (by decide) ?_
                                                  refine g_iadd B d_L_law_806 ?_
                                                  refine g_sld B En d_L_law_807 h788 ?_
                                                  refine g_aload_n B d_L_law_808 rfl rfl ?_
                                                  refine g_iload_n B d_L_law_809 rfl rfl ?_
                                                  refine g_iconst (v := 3) B d_L_law_810 (by decide) ?_
                                                  refine g_iadd B d_L_law_811 ?_
                                                  refine g_sld B En d_L_law_812 h793 ?_
                                                  obtain ⟨z813, g813, h⟩ := q_bind h
                                                  refine g_callV (p0 := 84) (ci := 10) (As := [.int (xs ((x3 + 1) : Int32).toNatClampNeg), .int (xs ((x3 + 2) : Int32).toNatClampNeg), .int (xs ((x3 + 3) : Int32).toNatClampNeg)]) (rest := [.int z794.1]) B d_L_law_813 (t_X10_year N (xs ((x3 + 1) : Int32).toNatClampNeg) (xs ((x3 + 2) : Int32).toNatClampNeg) (xs ((x3 + 3) : Int32).toNatClampNeg) z794.2 g813) m_X10_year w_WaterOthersLaw_106 (by decide) rfl rfl rfl rfl (Nat.le_of_ble_eq_true rfl) (by omega) (by decide) ?_
                                                  refine g_icmp_eq (tgt := 890) B d_L_law_816 (by decide) h (fun h => ?_) (fun h => ?_)
                                                  · refine g_iinc (v := (x3 + 6)) B d_L_law_890 rfl rfl (by decide) ?_
                                                    refine g_goto (tgt := 18) B d_L_law_893 (by decide) ?_
                                                    exact g_cut rfl (ih (x3 + 6) z813.2 h)
                                                  · refine g_iconst (v := 0) B d_L_law_819 (by decide) ?_
                                                    cases h
                                                · skip
                                                  refine q_sw h (fun e33_22 h => ?_) (fun e33_22 h => ?_)
                                                  · refine g_tswIn (c0 := 22) (tgt := 821) B d_L_law_33 e33_22 (by decide) (by decide) rfl (by decide) ?_
                                                    refine g_aload_n B d_L_law_821 rfl rfl ?_
                                                    refine g_aload_n B d_L_law_822 rfl rfl ?_
                                                    refine g_iload_n B d_L_law_823 rfl rfl ?_
                                                    refine g_iconst (v := 1) B d_L_law_824 (by decide) ?_
                                                    refine g_iadd B d_L_law_825 ?_
                                                    obtain ⟨h826, h⟩ := q_chk h
                                                    refine g_sld B En d_L_law_826 h826 ?_
                                                    obtain ⟨z827, g827, h⟩ := q_bind h
                                                    refine g_callV (p0 := 68) (ci := 9) (As := [.int (xs ((x3 + 1) : Int32).toNatClampNeg)]) (rest := []) B d_L_law_827 (t_X9_image N (xs ((x3 + 1) : Int32).toNatClampNeg) σ g827) m_X9_image w_WaterOthersLaw_107 (by decide) rfl rfl rfl rfl (Nat.le_of_ble_eq_true rfl) (by omega) (by decide) ?_
                                                    refine g_aload_n B d_L_law_830 rfl rfl ?_
                                                    refine g_aload_n B d_L_law_831 rfl rfl ?_
                                                    refine g_iload_n B d_L_law_832 rfl rfl ?_
                                                    refine g_iconst (v := 1) B d_L_law_833 (by decide) ?_
                                                    refine g_iadd B d_L_law_834 ?_
                                                    refine g_sld B En d_L_law_835 h826 ?_
                                                    obtain ⟨z836, g836, h⟩ := q_bind h
                                                    refine g_callV (p0 := 84) (ci := 10) (As := [.int (xs ((x3 + 1) : Int32).toNatClampNeg)]) (rest := [.int z827.1]) B d_L_law_836 (t_X10_image N (xs ((x3 + 1) : Int32).toNatClampNeg) z827.2 g836) m_X10_image w_WaterOthersLaw_110 (by decide) rfl rfl rfl rfl (Nat.le_of_ble_eq_true rfl) (by omega) (by decide) ?_
                                                    refine g_icmp_eq (tgt := 890) B d_L_law_839 (by decide) h (fun h => ?_) (fun h => ?_)
                                                    · refine g_iinc (v := (x3 + 6)) B d_L_law_890 rfl rfl (by decide) ?_
                                                      refine g_goto (tgt := 18) B d_L_law_893 (by decide) ?_
                                                      exact g_cut rfl (ih (x3 + 6) z836.2 h)
                                                    · refine g_iconst (v := 0) B d_L_law_842 (by decide) ?_
                                                      cases h
                                                  · skip
                                                    refine q_sw h (fun e33_23 h => ?_) (fun e33_23 h => ?_)
                                                    · refine g_tswIn (c0 := 23) (tgt := 844) B d_L_law_33 e33_23 (by decide) (by decide) rfl (by decide) ?_
                                                      refine g_aload_n B d_L_law_844 rfl rfl ?_
                                                      refine g_aload_n B d_L_law_845 rfl rfl ?_
                                                      refine g_iload_n B d_L_law_846 rfl rfl ?_
                                                      refine g_iconst (v := 1) B d_L_law_847 (by decide) ?_
                                                      refine g_iadd B d_L_law_848 ?_
                                                      obtain ⟨h849, h⟩ := q_chk h
                                                      refine g_sld B En d_L_law_849 h849 ?_
                                                      obtain ⟨z850, g850, h⟩ := q_bind h
                                                      refine g_callV (p0 := 68) (ci := 9) (As := [.int (xs ((x3 + 1) : Int32).toNatClampNeg)]) (rest := []) B d_L_law_850 (t_X9_restore N (xs ((x3 + 1) : Int32).toNatClampNeg) σ g850) m_X9_restore w_WaterOthersLaw_111 (by decide) rfl rfl rfl rfl (Nat.le_of_ble_eq_true rfl) (by omega) (by decide) ?_
                                                      refine g_aload_n B d_L_law_853 rfl rfl ?_
                                                      refine g_aload_n B d_L_law_854 rfl rfl ?_
                                                      refine g_iload_n B d_L_law_855 rfl rfl ?_
                                                      refine g_iconst (v := 1) B d_L_law_856 (by decide) ?_
                                                      refine g_iadd B d_L_law_857 ?_
                                                      refine g_sld B En d_L_law_858 h849 ?_
                                                      obtain ⟨z859, g859, h⟩ := q_bind h
                                                      refine g_callV (p0 := 84) (ci := 10) (As := [.int (xs ((x3 + 1) : Int32).toNatClampNeg)]) (rest := [.int z850.1]) B d_L_law_859 (t_X10_restore N (xs ((x3 + 1) : Int32).toNatClampNeg) z850.2 g859) m_X10_restore w_WaterOthersLaw_114 (by decide) rfl rfl rfl rfl (Nat.le_of_ble_eq_true rfl) (by omega) (by decide) ?_
                                                      refine g_icmp_eq (tgt := 890) B d_L_law_862 (by decide) h (fun h => ?_) (fun h => ?_)
                                                      · refine g_iinc (v := (x3 + 6)) B d_L_law_890 rfl rfl (by decide) ?_
                                                        refine g_goto (tgt := 18) B d_L_law_893 (by decide) ?_
                                                        exact g_cut rfl (ih (x3 + 6) z859.2 h)
                                                      · refine g_iconst (v := 0) B d_L_law_865 (by decide) ?_
                                                        cases h
                                                    · skip
                                                      refine q_sw h (fun e33_24 h => ?_) (fun e33_24 h => ?_)
                                                      · refine g_tswIn (c0 := 24) (tgt := 867) B d_L_law_33 e33_24 (by decide) (by decide) rfl (by decide) ?_
                                                        refine g_aload_n B d_L_law_867 rfl rfl ?_
                                                        refine g_aload_n B d_L_law_868 rfl rfl ?_
                                                        refine g_iload_n B d_L_law_869 rfl rfl ?_
                                                        refine g_iconst (v := 1) B d_L_law_870 (by decide) ?_
                                                        refine g_iadd B d_L_law_871 ?_
                                                        obtain ⟨h872, h⟩ := q_chk h
                                                        refine g_sld B En d_L_law_872 h872 ?_
                                                        obtain ⟨z873, g873, h⟩ := q_bind h
                                                        refine g_callV (p0 := 68) (ci := 9) (As := [.int (xs ((x3 + 1) : Int32).toNatClampNeg)]) (rest := []) B d_L_law_873 (t_X9_told N (xs ((x3 + 1) : Int32).toNatClampNeg) σ g873) m_X9_told w_WaterOthersLaw_115 (by decide) rfl rfl rfl rfl (Nat.le_of_ble_eq_true rfl) (by omega) (by decide) ?_
                                                        refine g_aload_n B d_L_law_876 rfl rfl ?_
                                                        refine g_aload_n B d_L_law_877 rfl rfl ?_
                                                        refine g_iload_n B d_L_law_878 rfl rfl ?_
                                                        refine g_iconst (v := 1) B d_L_law_879 (by decide) ?_
                                                        refine g_iadd B d_L_law_880 ?_
                                                        refine g_sld B En d_L_law_881 h872 ?_
                                                        obtain ⟨z882, g882, h⟩ := q_bind h
                                                        refine g_callV (p0 := 84) (ci := 10) (As := [.int (xs ((x3 + 1) : Int32).toNatClampNeg)]) (rest := [.int z873]) B d_L_law_882 (t_X10_told N (xs ((x3 + 1) : Int32).toNatClampNeg) σ g882) m_X10_told w_WaterOthersLaw_118 (by decide) rfl rfl rfl rfl (Nat.le_of_ble_eq_true rfl) (by omega) (by decide) ?_
                                                        refine g_icmp_eq (tgt := 890) B d_L_law_885 (by decide) h (fun h => ?_) (fun h => ?_)
                                                        · refine g_iinc (v := (x3 + 6)) B d_L_law_890 rfl rfl (by decide) ?_
                                                          refine g_goto (tgt := 18) B d_L_law_893 (by decide) ?_
                                                          exact g_cut rfl (ih (x3 + 6) z882.2 h)
                                                        · refine g_iconst (v := 0) B d_L_law_888 (by decide) ?_
                                                          cases h
                                                      · skip
                                                        have ze33_0 := q_ne (n := 0) e33_0 (by decide)
                                                        have ze33_1 := q_ne (n := 1) e33_1 (by decide)
                                                        have ze33_2 := q_ne (n := 2) e33_2 (by decide)
                                                        have ze33_3 := q_ne (n := 3) e33_3 (by decide)
                                                        have ze33_4 := q_ne (n := 4) e33_4 (by decide)
                                                        have ze33_5 := q_ne (n := 5) e33_5 (by decide)
                                                        have ze33_6 := q_ne (n := 6) e33_6 (by decide)
                                                        have ze33_7 := q_ne (n := 7) e33_7 (by decide)
                                                        have ze33_8 := q_ne (n := 8) e33_8 (by decide)
                                                        have ze33_9 := q_ne (n := 9) e33_9 (by decide)
                                                        have ze33_10 := q_ne (n := 10) e33_10 (by decide)
                                                        have ze33_11 := q_ne (n := 11) e33_11 (by decide)
                                                        have ze33_12 := q_ne (n := 12) e33_12 (by decide)
                                                        have ze33_13 := q_ne (n := 13) e33_13 (by decide)
                                                        have ze33_14 := q_ne (n := 14) e33_14 (by decide)
                                                        have ze33_15 := q_ne (n := 15) e33_15 (by decide)
                                                        have ze33_16 := q_ne (n := 16) e33_16 (by decide)
                                                        have ze33_17 := q_ne (n := 17) e33_17 (by decide)
                                                        have ze33_18 := q_ne (n := 18) e33_18 (by decide)
                                                        have ze33_19 := q_ne (n := 19) e33_19 (by decide)
                                                        have ze33_20 := q_ne (n := 20) e33_20 (by decide)
                                                        have ze33_21 := q_ne (n := 21) e33_21 (by decide)
                                                        have ze33_22 := q_ne (n := 22) e33_22 (by decide)
                                                        have ze33_23 := q_ne (n := 23) e33_23 (by decide)
                                                        have ze33_24 := q_ne (n := 24) e33_24 (by decide)
                                                        refine g_tswOut (tgt := 890) B d_L_law_33 (by change (((xs (x3 : Int32).toNatClampNeg) &&& 31) : Int32).toInt < _ ∨ _ < (((xs (x3 : Int32).toNatClampNeg) &&& 31) : Int32).toInt; omega) (by decide) ?_
                                                        refine g_iinc (v := (x3 + 6)) B d_L_law_890 rfl rfl (by decide) ?_
                                                        refine g_goto (tgt := 18) B d_L_law_893 (by decide) ?_
                                                        exact g_cut rfl (ih (x3 + 6) σ h)
set_option maxRecDepth 20000 in
theorem t_L_law {Z : q_Z} {Γ : q_C} {b L : Nat} {xs : Nat → Int32} {σ' : q_S} (B : q_B Z Γ code "WaterOthersLaw" 4 12) (En : q_LE Z Γ b L xs) (N : Nat) (σ : q_S) (h : f_L_law N L xs σ = some σ') : q_G Z Γ 4 σ 16 [(0, .ref b), (1, .ref (Z.1 68)), (2, .ref (Z.1 84))] [] := by
  unfold f_L_law at h
  refine g_iconst (v := 0) B d_L_law_16 (by decide) ?_
  refine g_istore_n B d_L_law_17 rfl (by decide) ?_
  exact g_cut rfl (t_L_law_18 B En N N 0 σ h)
