/-! the law's loop -/
def scr {β : Type} (L : Nat) (i : Int32) (k : Nat → Option β) : Option β := if ¬ (i < 0 ∨ L ≤ i.toNatClampNeg) then k i.toNatClampNeg else none
theorem scr_el {β : Type} {L : Nat} {i : Int32} {k : Nat → Option β} {o : β} (h : scr L i k = some o) : vp_in i L ∧ k i.toNatClampNeg = some o := by
  by_cases hc : ¬ (i < 0 ∨ L ≤ i.toNatClampNeg)
  · unfold scr at h; rw [if_pos hc] at h; exact ⟨hc, h⟩
  · unfold scr at h; rw [if_neg hc] at h; cases h
theorem scr_go {β : Type} {L : Nat} {i : Int32} {k : Nat → Option β} (h : vp_in i L) : scr L i k = k i.toNatClampNeg := if_pos h
theorem law0 {S S' : Hp} {P : Prop} (h : some ((0 : Int32), S) = some ((1 : Int32), S')) : P := by
  injection h with h
  injection h with h1
  exact absurd h1 (by decide)
section GR6
variable {X : Cx} {cc : ByteArray} {own : String} {rm : Room} {k n pc : Nat} {S : Hp} {lv : List (Nat × Value)} {st : List Value} {b L : Nat} {sc : Nat → Int32}
theorem g_slen (C : CxOK X cc own rm) (hX : va_X b L sc (xs X) (xs X).heap) (hbl : b < (xs X).heap.size) (hbA : ¬ xA X b) (hdg : decode cc pc = .ok (.arraylength, 1)) (kk : GW X k n S (pc + 1) lv (.int (nI L) :: st)) : GW X k n S pc lv (va_rf (some b) :: st) := fun H locs ls hP hD hS hl => va_slen C.1 C.2.1 hX hbl hbA hS hdg (kk H locs ls hP hD hS hl)
theorem g_sld (C : CxOK X cc own rm) (hX : va_X b L sc (xs X) (xs X).heap) (hbl : b < (xs X).heap.size) (hbA : ¬ xA X b) {β : Type} {o : β} {K : Nat → Option β} {i : Int32} (hdg : decode cc pc = .ok (.iaload, 1)) (h : scr L i K = some o) (kk : ∀ j, K j = some o → GW X k n S (pc + 1) lv (.int (sc j) :: st)) : GW X k n S pc lv (.int i :: va_rf (some b) :: st) := fun H locs ls hP hD hS hl => va_sld C.1 C.2.1 hX hbl hbA hS (scr_el h).1 hdg (kk _ (scr_el h).2 H locs ls hP hD hS hl)
end GR6

theorem gv_RL_X5_addBridge : GoodIn wsL_law (wsV RL 25 RX5 yX5_addBridge (.code yX5_addBridge cX5_addBridge 4 (some .int) :: wsL_law)) := good_V q175 q176 q177 q2 q178
theorem gv_RL_X5_addGuide : GoodIn wsL_law (wsV RL 13 RX5 yX5_addGuide (.code yX5_addGuide cX5_addGuide 4 (some .int) :: wsL_law)) := good_V q73 q74 q75 q2 q76
theorem gv_RL_X5_addTour : GoodIn wsL_law (wsV RL 34 RX5 yX5_addTour (.code yX5_addTour cX5_addTour 7 (some .int) :: wsL_law)) := good_V q226 q227 q228 q2 q229
theorem gv_RL_X5_bestGuide : GoodIn wsL_law (wsV RL 124 RX5 yX5_bestGuide (.code yX5_bestGuide cX5_bestGuide 6 (some .int) :: wsL_law)) := good_V q793 q794 q795 q2 q796
theorem gv_RL_X5_book : GoodIn wsL_law (wsV RL 39 RX5 yX5_book (.code yX5_book cX5_book 5 (some .int) :: wsL_law)) := good_V q257 q258 q259 q2 q260
theorem gv_RL_X5_cancel : GoodIn wsL_law (wsV RL 59 RX5 yX5_cancel (.code yX5_cancel cX5_cancel 3 (some .int) :: wsL_law)) := good_V q428 q429 q430 q2 q431
theorem gv_RL_X5_clearText : GoodIn wsL_law (wsV RL 73 RX5 yX5_clearText (.code yX5_clearText cX5_clearText 2 (some .int) :: wsL_law)) := good_V q541 q542 q543 q2 q544
theorem gv_RL_X5_count : GoodIn wsL_law (wsV RL 132 RX5 yX5_count (.code yX5_count cX5_count 2 (some .int) :: wsL_law)) := good_V q809 q810 q811 q2 q812
theorem gv_RL_X5_foretold : GoodIn wsL_law (wsV RL 111 RX5 yX5_foretold (.code yX5_foretold cX5_foretold 6 (some .double) :: wsL_law)) := good_V q767 q768 q769 q2 q770
theorem gv_RL_X5_guide : GoodIn wsL_law (wsV RL 94 RX5 yX5_guide (.code yX5_guide cX5_guide 4 (some .int) :: wsL_law)) := good_V q701 q702 q703 q2 q704
theorem gv_RL_X5_holds : GoodIn wsL_law (wsV RL 120 RX5 yX5_holds (.code yX5_holds cX5_holds 4 (some .int) :: wsL_law)) := good_V q785 q786 q787 q2 q788
theorem gv_RL_X5_keep : GoodIn wsL_law (wsV RL 86 RX5 yX5_keep (.code yX5_keep cX5_keep 1 (some .int) :: wsL_law)) := good_V q682 q683 q684 q2 q685
theorem gv_RL_X5_lead : GoodIn wsL_law (wsV RL 47 RX5 yX5_lead (.code yX5_lead cX5_lead 4 (some .int) :: wsL_law)) := good_V q316 q317 q318 q2 q319
theorem gv_RL_X5_leave : GoodIn wsL_law (wsV RL 43 RX5 yX5_leave (.code yX5_leave cX5_leave 5 (some .int) :: wsL_law)) := good_V q288 q289 q290 q2 q291
theorem gv_RL_X5_merge : GoodIn wsL_law (wsV RL 55 RX5 yX5_merge (.code yX5_merge cX5_merge 7 (some .int) :: wsL_law)) := good_V q407 q408 q409 q2 q410
theorem gv_RL_X5_needed : GoodIn wsL_law (wsV RL 116 RX5 yX5_needed (.code yX5_needed cX5_needed 3 (some .double) :: wsL_law)) := good_V q776 q777 q778 q2 q779
theorem gv_RL_X5_pass : GoodIn wsL_law (wsV RL 64 RX5 yX5_pass (.code yX5_pass cX5_pass 4 (some .int) :: wsL_law)) := good_V q446 q447 q448 q2 q449
theorem gv_RL_X5_perform : GoodIn wsL_law (wsV RL 78 RX5 yX5_perform (.code yX5_perform cX5_perform 2 (some .int) :: wsL_law)) := good_V q549 q550 q551 q2 q552
theorem gv_RL_X5_release : GoodIn wsL_law (wsV RL 51 RX5 yX5_release (.code yX5_release cX5_release 4 (some .int) :: wsL_law)) := good_V q379 q380 q381 q2 q382
theorem gv_RL_X5_renew : GoodIn wsL_law (wsV RL 18 RX5 yX5_renew (.code yX5_renew cX5_renew 6 (some .int) :: wsL_law)) := good_V q152 q153 q154 q2 q155
theorem gv_RL_X5_restore : GoodIn wsL_law (wsV RL 90 RX5 yX5_restore (.code yX5_restore cX5_restore 1 (some .int) :: wsL_law)) := good_V q693 q694 q695 q2 q696
theorem gv_RL_X5_rope : GoodIn wsL_law (wsV RL 102 RX5 yX5_rope (.code yX5_rope cX5_rope 5 (some .int) :: wsL_law)) := good_V q733 q734 q735 q2 q736
theorem gv_RL_X5_setTemperature : GoodIn wsL_law (wsV RL 30 RX5 yX5_setTemperature (.code yX5_setTemperature cX5_setTemperature 5 (some .int) :: wsL_law)) := good_V q207 q208 q209 q2 q210
theorem gv_RL_X5_takes : GoodIn wsL_law (wsV RL 128 RX5 yX5_takes (.code yX5_takes cX5_takes 4 (some .int) :: wsL_law)) := good_V q801 q802 q803 q2 q804
theorem gv_RL_X5_temperature : GoodIn wsL_law (wsV RL 136 RX5 yX5_temperature (.code yX5_temperature cX5_temperature 1 (some .long) :: wsL_law)) := good_V q842 q843 q844 q2 q845
theorem gv_RL_X5_thickness : GoodIn wsL_law (wsV RL 106 RX5 yX5_thickness (.code yX5_thickness cX5_thickness 2 (some .double) :: wsL_law)) := good_V q743 q744 q745 q2 q746
theorem gv_RL_X5_tour : GoodIn wsL_law (wsV RL 98 RX5 yX5_tour (.code yX5_tour cX5_tour 4 (some .int) :: wsL_law)) := good_V q720 q721 q722 q2 q723
theorem gv_RL_X5_type : GoodIn wsL_law (wsV RL 68 RX5 yX5_type (.code yX5_type cX5_type 2 (some .int) :: wsL_law)) := good_V q526 q527 q528 q2 q529
theorem gv_RL_X5_undo : GoodIn wsL_law (wsV RL 82 RX5 yX5_undo (.code yX5_undo cX5_undo 1 (some .int) :: wsL_law)) := good_V q669 q670 q671 q2 q672
theorem gv_RL_X6_addBridge : GoodIn wsL_law (wsV RL 29 RX6 yX6_addBridge (.code yX6_addBridge cX6_addBridge 3 (some .int) :: wsL_law)) := good_V q194 q195 q196 q5 q197
theorem gv_RL_X6_addGuide : GoodIn wsL_law (wsV RL 17 RX6 yX6_addGuide (.code yX6_addGuide cX6_addGuide 4 (some .int) :: wsL_law)) := good_V q137 q138 q139 q5 q140
theorem gv_RL_X6_addTour : GoodIn wsL_law (wsV RL 38 RX6 yX6_addTour (.code yX6_addTour cX6_addTour 8 (some .int) :: wsL_law)) := good_V q248 q249 q250 q5 q251
theorem gv_RL_X6_bestGuide : GoodIn wsL_law (wsV RL 127 RX6 yX6_bestGuide (.code yX6_bestGuide cX6_bestGuide 5 (some .int) :: wsL_law)) := good_V q797 q798 q799 q5 q800
theorem gv_RL_X6_book : GoodIn wsL_law (wsV RL 42 RX6 yX6_book (.code yX6_book cX6_book 4 (some .int) :: wsL_law)) := good_V q272 q273 q274 q5 q275
theorem gv_RL_X6_cancel : GoodIn wsL_law (wsV RL 63 RX6 yX6_cancel (.code yX6_cancel cX6_cancel 2 (some .int) :: wsL_law)) := good_V q438 q439 q440 q5 q441
theorem gv_RL_X6_clearText : GoodIn wsL_law (wsV RL 77 RX6 yX6_clearText (.code yX6_clearText cX6_clearText 2 (some .int) :: wsL_law)) := good_V q545 q546 q547 q5 q548
theorem gv_RL_X6_count : GoodIn wsL_law (wsV RL 135 RX6 yX6_count (.code yX6_count cX6_count 2 (some .int) :: wsL_law)) := good_V q826 q827 q828 q5 q829
theorem gv_RL_X6_foretold : GoodIn wsL_law (wsV RL 115 RX6 yX6_foretold (.code yX6_foretold cX6_foretold 6 (some .double) :: wsL_law)) := good_V q772 q773 q774 q5 q775
theorem gv_RL_X6_guide : GoodIn wsL_law (wsV RL 97 RX6 yX6_guide (.code yX6_guide cX6_guide 3 (some .int) :: wsL_law)) := good_V q712 q713 q714 q5 q715
theorem gv_RL_X6_holds : GoodIn wsL_law (wsV RL 123 RX6 yX6_holds (.code yX6_holds cX6_holds 3 (some .int) :: wsL_law)) := good_V q789 q790 q791 q5 q792
theorem gv_RL_X6_keep : GoodIn wsL_law (wsV RL 89 RX6 yX6_keep (.code yX6_keep cX6_keep 2 (some .int) :: wsL_law)) := good_V q688 q689 q690 q5 q691
theorem gv_RL_X6_lead : GoodIn wsL_law (wsV RL 50 RX6 yX6_lead (.code yX6_lead cX6_lead 3 (some .int) :: wsL_law)) := good_V q349 q350 q351 q5 q352
theorem gv_RL_X6_leave : GoodIn wsL_law (wsV RL 46 RX6 yX6_leave (.code yX6_leave cX6_leave 7 (some .int) :: wsL_law)) := good_V q306 q307 q308 q5 q309
theorem gv_RL_X6_merge : GoodIn wsL_law (wsV RL 58 RX6 yX6_merge (.code yX6_merge cX6_merge 6 (some .int) :: wsL_law)) := good_V q420 q421 q422 q5 q423
theorem gv_RL_X6_needed : GoodIn wsL_law (wsV RL 119 RX6 yX6_needed (.code yX6_needed cX6_needed 2 (some .double) :: wsL_law)) := good_V q781 q782 q783 q5 q784
theorem gv_RL_X6_pass : GoodIn wsL_law (wsV RL 67 RX6 yX6_pass (.code yX6_pass cX6_pass 4 (some .int) :: wsL_law)) := good_V q495 q496 q497 q5 q498
theorem gv_RL_X6_perform : GoodIn wsL_law (wsV RL 81 RX6 yX6_perform (.code yX6_perform cX6_perform 2 (some .int) :: wsL_law)) := good_V q645 q646 q647 q5 q648
theorem gv_RL_X6_release : GoodIn wsL_law (wsV RL 54 RX6 yX6_release (.code yX6_release cX6_release 5 (some .int) :: wsL_law)) := good_V q395 q396 q397 q5 q398
theorem gv_RL_X6_renew : GoodIn wsL_law (wsV RL 22 RX6 yX6_renew (.code yX6_renew cX6_renew 5 (some .int) :: wsL_law)) := good_V q163 q164 q165 q5 q166
theorem gv_RL_X6_restore : GoodIn wsL_law (wsV RL 93 RX6 yX6_restore (.code yX6_restore cX6_restore 2 (some .int) :: wsL_law)) := good_V q697 q698 q699 q5 q700
theorem gv_RL_X6_rope : GoodIn wsL_law (wsV RL 105 RX6 yX6_rope (.code yX6_rope cX6_rope 5 (some .int) :: wsL_law)) := good_V q739 q740 q741 q5 q742
theorem gv_RL_X6_setTemperature : GoodIn wsL_law (wsV RL 33 RX6 yX6_setTemperature (.code yX6_setTemperature cX6_setTemperature 6 (some .int) :: wsL_law)) := good_V q219 q220 q221 q5 q222
theorem gv_RL_X6_takes : GoodIn wsL_law (wsV RL 131 RX6 yX6_takes (.code yX6_takes cX6_takes 3 (some .int) :: wsL_law)) := good_V q805 q806 q807 q5 q808
theorem gv_RL_X6_temperature : GoodIn wsL_law (wsV RL 140 RX6 yX6_temperature (.code yX6_temperature cX6_temperature 1 (some .long) :: wsL_law)) := good_V q846 q847 q848 q5 q849
theorem gv_RL_X6_thickness : GoodIn wsL_law (wsV RL 110 RX6 yX6_thickness (.code yX6_thickness cX6_thickness 2 (some .double) :: wsL_law)) := good_V q755 q756 q757 q5 q758
theorem gv_RL_X6_tour : GoodIn wsL_law (wsV RL 101 RX6 yX6_tour (.code yX6_tour cX6_tour 3 (some .int) :: wsL_law)) := good_V q729 q730 q731 q5 q732
theorem gv_RL_X6_type : GoodIn wsL_law (wsV RL 72 RX6 yX6_type (.code yX6_type cX6_type 2 (some .int) :: wsL_law)) := good_V q536 q537 q538 q5 q539
theorem gv_RL_X6_undo : GoodIn wsL_law (wsV RL 85 RX6 yX6_undo (.code yX6_undo cX6_undo 2 (some .int) :: wsL_law)) := good_V q678 q679 q680 q5 q681

def f_law_b (sc : Nat → Int32) (L : Nat) (rec : Hp → Option Nat → Option Nat → Int32 → Option (Int32 × Hp)) (S : Hp) (y1 y2 : Option Nat) (y3 : Int32) : Option (Int32 × Hp) :=
 if ((nI L) - 6) < y3 then
 some ((1 : Int32), S)
 else
 scr L y3 fun i1 =>
 if ((sc i1) &&& 31) = 0 then
 scr L (y3 + 1) fun i2 =>
 scr L (y3 + 2) fun i3 =>
 ob S 5 y1 fun b1 => cl (f_X5_addGuide S b1 (sc i2) (sc i3)) fun v1 S1 =>
 scr L (y3 + 1) fun i4 =>
 scr L (y3 + 2) fun i5 =>
 ob S1 6 y2 fun b2 => cl (f_X6_addGuide S1 b2 (sc i4) (sc i5)) fun v2 S2 =>
 if v1 = v2 then
 bnd (y3 + 6) fun v3 =>
 rec S2 y1 y2 v3
 else
 some ((0 : Int32), S2)
 else if ((sc i1) &&& 31) = 1 then
 scr L (y3 + 1) fun i6 =>
 scr L (y3 + 2) fun i7 =>
 scr L (y3 + 3) fun i8 =>
 ob S 5 y1 fun b3 => cl (f_X5_renew S b3 (sc i6) (sc i7) (sc i8)) fun v4 S3 =>
 scr L (y3 + 1) fun i9 =>
 scr L (y3 + 2) fun i10 =>
 scr L (y3 + 3) fun i11 =>
 ob S3 6 y2 fun b4 => cl (f_X6_renew S3 b4 (sc i9) (sc i10) (sc i11)) fun v5 S4 =>
 if v4 = v5 then
 bnd (y3 + 6) fun v6 =>
 rec S4 y1 y2 v6
 else
 some ((0 : Int32), S4)
 else if ((sc i1) &&& 31) = 2 then
 scr L (y3 + 1) fun i12 =>
 scr L (y3 + 2) fun i13 =>
 ob S 5 y1 fun b5 => cl (f_X5_addBridge S b5 ((((sc i12).toInt64) <<< ((32 : Int32).toInt64 &&& 63)) ||| (((sc i13).toInt64) &&& 4294967295))) fun v7 S5 =>
 scr L (y3 + 1) fun i14 =>
 scr L (y3 + 2) fun i15 =>
 ob S5 6 y2 fun b6 => cl (f_X6_addBridge S5 b6 ((((sc i14).toInt64) <<< ((32 : Int32).toInt64 &&& 63)) ||| (((sc i15).toInt64) &&& 4294967295))) fun v8 S6 =>
 if v7 = v8 then
 bnd (y3 + 6) fun v9 =>
 rec S6 y1 y2 v9
 else
 some ((0 : Int32), S6)
 else if ((sc i1) &&& 31) = 3 then
 scr L (y3 + 1) fun i16 =>
 scr L (y3 + 2) fun i17 =>
 ob S 5 y1 fun b7 => cl (f_X5_setTemperature S b7 ((((sc i16).toInt64) <<< ((32 : Int32).toInt64 &&& 63)) ||| (((sc i17).toInt64) &&& 4294967295))) fun v10 S7 =>
 scr L (y3 + 1) fun i18 =>
 scr L (y3 + 2) fun i19 =>
 ob S7 6 y2 fun b8 => cl (f_X6_setTemperature S7 b8 ((((sc i18).toInt64) <<< ((32 : Int32).toInt64 &&& 63)) ||| (((sc i19).toInt64) &&& 4294967295))) fun v11 S8 =>
 if v10 = v11 then
 bnd (y3 + 6) fun v12 =>
 rec S8 y1 y2 v12
 else
 some ((0 : Int32), S8)
 else if ((sc i1) &&& 31) = 4 then
 scr L (y3 + 1) fun i20 =>
 scr L (y3 + 2) fun i21 =>
 scr L (y3 + 3) fun i22 =>
 scr L (y3 + 4) fun i23 =>
 scr L (y3 + 5) fun i24 =>
 ob S 5 y1 fun b9 => cl (f_X5_addTour S b9 (sc i20) ((((sc i21).toInt64) <<< ((32 : Int32).toInt64 &&& 63)) ||| (((sc i22).toInt64) &&& 4294967295)) (sc i23) (sc i24)) fun v13 S9 =>
 scr L (y3 + 1) fun i25 =>
 scr L (y3 + 2) fun i26 =>
 scr L (y3 + 3) fun i27 =>
 scr L (y3 + 4) fun i28 =>
 scr L (y3 + 5) fun i29 =>
 ob S9 6 y2 fun b10 => cl (f_X6_addTour S9 b10 (sc i25) ((((sc i26).toInt64) <<< ((32 : Int32).toInt64 &&& 63)) ||| (((sc i27).toInt64) &&& 4294967295)) (sc i28) (sc i29)) fun v14 S10 =>
 if v13 = v14 then
 bnd (y3 + 6) fun v15 =>
 rec S10 y1 y2 v15
 else
 some ((0 : Int32), S10)
 else if ((sc i1) &&& 31) = 5 then
 scr L (y3 + 1) fun i30 =>
 scr L (y3 + 2) fun i31 =>
 ob S 5 y1 fun b11 => cl (f_X5_book S b11 (sc i30) (sc i31)) fun v16 S11 =>
 scr L (y3 + 1) fun i32 =>
 scr L (y3 + 2) fun i33 =>
 ob S11 6 y2 fun b12 => cl (f_X6_book S11 b12 (sc i32) (sc i33)) fun v17 S12 =>
 if v16 = v17 then
 bnd (y3 + 6) fun v18 =>
 rec S12 y1 y2 v18
 else
 some ((0 : Int32), S12)
 else if ((sc i1) &&& 31) = 6 then
 scr L (y3 + 1) fun i34 =>
 scr L (y3 + 2) fun i35 =>
 ob S 5 y1 fun b13 => cl (f_X5_leave S b13 (sc i34) (sc i35)) fun v19 S13 =>
 scr L (y3 + 1) fun i36 =>
 scr L (y3 + 2) fun i37 =>
 ob S13 6 y2 fun b14 => cl (f_X6_leave S13 b14 (sc i36) (sc i37)) fun v20 S14 =>
 if v19 = v20 then
 bnd (y3 + 6) fun v21 =>
 rec S14 y1 y2 v21
 else
 some ((0 : Int32), S14)
 else if ((sc i1) &&& 31) = 7 then
 scr L (y3 + 1) fun i38 =>
 scr L (y3 + 2) fun i39 =>
 ob S 5 y1 fun b15 => cl (f_X5_lead S b15 (sc i38) (sc i39)) fun v22 S15 =>
 scr L (y3 + 1) fun i40 =>
 scr L (y3 + 2) fun i41 =>
 ob S15 6 y2 fun b16 => cl (f_X6_lead S15 b16 (sc i40) (sc i41)) fun v23 S16 =>
 if v22 = v23 then
 bnd (y3 + 6) fun v24 =>
 rec S16 y1 y2 v24
 else
 some ((0 : Int32), S16)
 else if ((sc i1) &&& 31) = 8 then
 scr L (y3 + 1) fun i42 =>
 scr L (y3 + 2) fun i43 =>
 ob S 5 y1 fun b17 => cl (f_X5_release S b17 (sc i42) (sc i43)) fun v25 S17 =>
 scr L (y3 + 1) fun i44 =>
 scr L (y3 + 2) fun i45 =>
 ob S17 6 y2 fun b18 => cl (f_X6_release S17 b18 (sc i44) (sc i45)) fun v26 S18 =>
 if v25 = v26 then
 bnd (y3 + 6) fun v27 =>
 rec S18 y1 y2 v27
 else
 some ((0 : Int32), S18)
 else if ((sc i1) &&& 31) = 9 then
 scr L (y3 + 1) fun i46 =>
 scr L (y3 + 2) fun i47 =>
 ob S 5 y1 fun b19 => cl (f_X5_merge S b19 (sc i46) (sc i47)) fun v28 S19 =>
 scr L (y3 + 1) fun i48 =>
 scr L (y3 + 2) fun i49 =>
 ob S19 6 y2 fun b20 => cl (f_X6_merge S19 b20 (sc i48) (sc i49)) fun v29 S20 =>
 if v28 = v29 then
 bnd (y3 + 6) fun v30 =>
 rec S20 y1 y2 v30
 else
 some ((0 : Int32), S20)
 else if ((sc i1) &&& 31) = 10 then
 scr L (y3 + 1) fun i50 =>
 ob S 5 y1 fun b21 => cl (f_X5_cancel S b21 (sc i50)) fun v31 S21 =>
 scr L (y3 + 1) fun i51 =>
 ob S21 6 y2 fun b22 => cl (f_X6_cancel S21 b22 (sc i51)) fun v32 S22 =>
 if v31 = v32 then
 bnd (y3 + 6) fun v33 =>
 rec S22 y1 y2 v33
 else
 some ((0 : Int32), S22)
 else if ((sc i1) &&& 31) = 11 then
 scr L (y3 + 1) fun i52 =>
 ob S 5 y1 fun b23 => cl (f_X5_pass S b23 (sc i52)) fun v34 S23 =>
 scr L (y3 + 1) fun i53 =>
 ob S23 6 y2 fun b24 => cl (f_X6_pass S23 b24 (sc i53)) fun v35 S24 =>
 if v34 = v35 then
 bnd (y3 + 6) fun v36 =>
 rec S24 y1 y2 v36
 else
 some ((0 : Int32), S24)
 else if ((sc i1) &&& 31) = 12 then
 scr L (y3 + 1) fun i54 =>
 ob S 5 y1 fun b25 => cl (f_X5_type S b25 (((sc i54).toUInt32 % 65536).toInt32)) fun v37 S25 =>
 scr L (y3 + 1) fun i55 =>
 ob S25 6 y2 fun b26 => cl (f_X6_type S25 b26 (((sc i55).toUInt32 % 65536).toInt32)) fun v38 S26 =>
 if v37 = v38 then
 bnd (y3 + 6) fun v39 =>
 rec S26 y1 y2 v39
 else
 some ((0 : Int32), S26)
 else if ((sc i1) &&& 31) = 13 then
 ob S 5 y1 fun b27 => cl (f_X5_clearText S b27 ) fun v40 S27 =>
 ob S27 6 y2 fun b28 => cl (f_X6_clearText S27 b28 ) fun v41 S28 =>
 if v40 = v41 then
 bnd (y3 + 6) fun v42 =>
 rec S28 y1 y2 v42
 else
 some ((0 : Int32), S28)
 else if ((sc i1) &&& 31) = 14 then
 ob S 5 y1 fun b29 => cl (f_X5_perform S b29 ) fun v43 S29 =>
 ob S29 6 y2 fun b30 => cl (f_X6_perform S29 b30 ) fun v44 S30 =>
 if v43 = v44 then
 bnd (y3 + 6) fun v45 =>
 rec S30 y1 y2 v45
 else
 some ((0 : Int32), S30)
 else if ((sc i1) &&& 31) = 15 then
 ob S 5 y1 fun b31 => cl (f_X5_undo S b31 ) fun v46 S31 =>
 ob S31 6 y2 fun b32 => cl (f_X6_undo S31 b32 ) fun v47 S32 =>
 if v46 = v47 then
 bnd (y3 + 6) fun v48 =>
 rec S32 y1 y2 v48
 else
 some ((0 : Int32), S32)
 else if ((sc i1) &&& 31) = 16 then
 ob S 5 y1 fun b33 => cl (f_X5_keep S b33 ) fun v49 S33 =>
 ob S33 6 y2 fun b34 => cl (f_X6_keep S33 b34 ) fun v50 S34 =>
 if v49 = v50 then
 bnd (y3 + 6) fun v51 =>
 rec S34 y1 y2 v51
 else
 some ((0 : Int32), S34)
 else if ((sc i1) &&& 31) = 17 then
 ob S 5 y1 fun b35 => cl (f_X5_restore S b35 ) fun v52 S35 =>
 ob S35 6 y2 fun b36 => cl (f_X6_restore S35 b36 ) fun v53 S36 =>
 if v52 = v53 then
 bnd (y3 + 6) fun v54 =>
 rec S36 y1 y2 v54
 else
 some ((0 : Int32), S36)
 else if ((sc i1) &&& 31) = 18 then
 scr L (y3 + 1) fun i56 =>
 scr L (y3 + 2) fun i57 =>
 ob S 5 y1 fun b37 => cl (f_X5_guide S b37 (sc i56) (sc i57)) fun v55 S37 =>
 scr L (y3 + 1) fun i58 =>
 scr L (y3 + 2) fun i59 =>
 ob S37 6 y2 fun b38 => cl (f_X6_guide S37 b38 (sc i58) (sc i59)) fun v56 S38 =>
 if v55 = v56 then
 bnd (y3 + 6) fun v57 =>
 rec S38 y1 y2 v57
 else
 some ((0 : Int32), S38)
 else if ((sc i1) &&& 31) = 19 then
 scr L (y3 + 1) fun i60 =>
 scr L (y3 + 2) fun i61 =>
 ob S 5 y1 fun b39 => cl (f_X5_tour S b39 (sc i60) (sc i61)) fun v58 S39 =>
 scr L (y3 + 1) fun i62 =>
 scr L (y3 + 2) fun i63 =>
 ob S39 6 y2 fun b40 => cl (f_X6_tour S39 b40 (sc i62) (sc i63)) fun v59 S40 =>
 if v58 = v59 then
 bnd (y3 + 6) fun v60 =>
 rec S40 y1 y2 v60
 else
 some ((0 : Int32), S40)
 else if ((sc i1) &&& 31) = 20 then
 scr L (y3 + 1) fun i64 =>
 scr L (y3 + 2) fun i65 =>
 scr L (y3 + 3) fun i66 =>
 ob S 5 y1 fun b41 => cl (f_X5_rope S b41 (sc i64) (sc i65) (sc i66)) fun v61 S41 =>
 scr L (y3 + 1) fun i67 =>
 scr L (y3 + 2) fun i68 =>
 scr L (y3 + 3) fun i69 =>
 ob S41 6 y2 fun b42 => cl (f_X6_rope S41 b42 (sc i67) (sc i68) (sc i69)) fun v62 S42 =>
 if v61 = v62 then
 bnd (y3 + 6) fun v63 =>
 rec S42 y1 y2 v63
 else
 some ((0 : Int32), S42)
 else if ((sc i1) &&& 31) = 21 then
 scr L (y3 + 1) fun i70 =>
 ob S 5 y1 fun b43 => cl (f_X5_thickness S b43 (sc i70)) fun e1 S43 =>
 scr L (y3 + 1) fun i71 =>
 ob S43 6 y2 fun b44 => cl (f_X6_thickness S43 b44 (sc i71)) fun e2 S44 =>
 if (Op.cmpValue (FP.dcmp e1 e2) CmpOp.l) = 0 then
 bnd (y3 + 6) fun v64 =>
 rec S44 y1 y2 v64
 else
 if (Op.cmpValue (FP.dcmp e1 e1) CmpOp.l) = 0 then
 some ((0 : Int32), S44)
 else
 if (Op.cmpValue (FP.dcmp e2 e2) CmpOp.l) = 0 then
 some ((0 : Int32), S44)
 else
 bnd (y3 + 6) fun v65 =>
 rec S44 y1 y2 v65
 else if ((sc i1) &&& 31) = 22 then
 scr L (y3 + 1) fun i72 =>
 scr L (y3 + 2) fun i73 =>
 ob S 5 y1 fun b45 => cl (f_X5_foretold S b45 (sc i72) (sc i73)) fun e3 S45 =>
 scr L (y3 + 1) fun i74 =>
 scr L (y3 + 2) fun i75 =>
 ob S45 6 y2 fun b46 => cl (f_X6_foretold S45 b46 (sc i74) (sc i75)) fun e4 S46 =>
 if (Op.cmpValue (FP.dcmp e3 e4) CmpOp.l) = 0 then
 bnd (y3 + 6) fun v66 =>
 rec S46 y1 y2 v66
 else
 if (Op.cmpValue (FP.dcmp e3 e3) CmpOp.l) = 0 then
 some ((0 : Int32), S46)
 else
 if (Op.cmpValue (FP.dcmp e4 e4) CmpOp.l) = 0 then
 some ((0 : Int32), S46)
 else
 bnd (y3 + 6) fun v67 =>
 rec S46 y1 y2 v67
 else if ((sc i1) &&& 31) = 23 then
 scr L (y3 + 1) fun i76 =>
 ob S 5 y1 fun b47 => cl (f_X5_needed S b47 (sc i76)) fun e5 S47 =>
 scr L (y3 + 1) fun i77 =>
 ob S47 6 y2 fun b48 => cl (f_X6_needed S47 b48 (sc i77)) fun e6 S48 =>
 if (Op.cmpValue (FP.dcmp e5 e6) CmpOp.l) = 0 then
 bnd (y3 + 6) fun v68 =>
 rec S48 y1 y2 v68
 else
 if (Op.cmpValue (FP.dcmp e5 e5) CmpOp.l) = 0 then
 some ((0 : Int32), S48)
 else
 if (Op.cmpValue (FP.dcmp e6 e6) CmpOp.l) = 0 then
 some ((0 : Int32), S48)
 else
 bnd (y3 + 6) fun v69 =>
 rec S48 y1 y2 v69
 else if ((sc i1) &&& 31) = 24 then
 scr L (y3 + 1) fun i78 =>
 scr L (y3 + 2) fun i79 =>
 ob S 5 y1 fun b49 => cl (f_X5_holds S b49 (sc i78) (sc i79)) fun v70 S49 =>
 scr L (y3 + 1) fun i80 =>
 scr L (y3 + 2) fun i81 =>
 ob S49 6 y2 fun b50 => cl (f_X6_holds S49 b50 (sc i80) (sc i81)) fun v71 S50 =>
 if v70 = v71 then
 bnd (y3 + 6) fun v72 =>
 rec S50 y1 y2 v72
 else
 some ((0 : Int32), S50)
 else if ((sc i1) &&& 31) = 25 then
 scr L (y3 + 1) fun i82 =>
 ob S 5 y1 fun b51 => cl (f_X5_bestGuide S b51 (sc i82)) fun v73 S51 =>
 scr L (y3 + 1) fun i83 =>
 ob S51 6 y2 fun b52 => cl (f_X6_bestGuide S51 b52 (sc i83)) fun v74 S52 =>
 if v73 = v74 then
 bnd (y3 + 6) fun v75 =>
 rec S52 y1 y2 v75
 else
 some ((0 : Int32), S52)
 else if ((sc i1) &&& 31) = 26 then
 scr L (y3 + 1) fun i84 =>
 scr L (y3 + 2) fun i85 =>
 ob S 5 y1 fun b53 => cl (f_X5_takes S b53 (sc i84) (sc i85)) fun v76 S53 =>
 scr L (y3 + 1) fun i86 =>
 scr L (y3 + 2) fun i87 =>
 ob S53 6 y2 fun b54 => cl (f_X6_takes S53 b54 (sc i86) (sc i87)) fun v77 S54 =>
 if v76 = v77 then
 bnd (y3 + 6) fun v78 =>
 rec S54 y1 y2 v78
 else
 some ((0 : Int32), S54)
 else if ((sc i1) &&& 31) = 27 then
 scr L (y3 + 1) fun i88 =>
 ob S 5 y1 fun b55 => cl (f_X5_count S b55 (sc i88)) fun v79 S55 =>
 scr L (y3 + 1) fun i89 =>
 ob S55 6 y2 fun b56 => cl (f_X6_count S55 b56 (sc i89)) fun v80 S56 =>
 if v79 = v80 then
 bnd (y3 + 6) fun v81 =>
 rec S56 y1 y2 v81
 else
 some ((0 : Int32), S56)
 else if ((sc i1) &&& 31) = 28 then
 ob S 5 y1 fun b57 => cl (f_X5_temperature S b57 ) fun j1 S57 =>
 ob S57 6 y2 fun b58 => cl (f_X6_temperature S57 b58 ) fun j2 S58 =>
 if (lg_cmp j1 j2) = 0 then
 bnd (y3 + 6) fun v82 =>
 rec S58 y1 y2 v82
 else
 some ((0 : Int32), S58)
 else bnd (y3 + 6) fun v83 =>
 rec S y1 y2 v83

def f_law (sc : Nat → Int32) (L : Nat) : Nat → Hp → Option Nat → Option Nat → Int32 → Option (Int32 × Hp)
  | 0 => fun _ _ _ _ => none
  | n + 1 => f_law_b sc L (f_law sc L n)

set_option maxHeartbeats 40000000 in
set_option maxRecDepth 100000 in
theorem w_law {X : Cx} {adK adV : Nat → Nat} (E : EV adK adV (xA X) (xs X) (xs X).heap) (C : CxOK X cL_law RL room_1) (hn : xn X = 8) {b L : Nat} {sc : Nat → Int32} (hX : va_X b L sc (xs X) (xs X).heap) (hbl : b < (xs X).heap.size) (hbA : ¬ xA X b) {S' : Hp} (hret : ∀ (S : Hp) (pc : Nat) (lv : List (Nat × Value)), decode cL_law pc = .ok (.ireturn, 1) → GW X 600000 7302250 S pc lv [.int 1]) : ∀ (fuel : Nat) (S : Hp) (y1 y2 : Option Nat) (y3 : Int32), f_law sc L fuel S y1 y2 y3 = some ((1 : Int32), S') → GW X 600000 7302250 S 18 [(0, va_rf (some b)), (1, va_rf y1), (2, va_rf y2), (3, .int y3)] [] := by
  have hn3 : 3 < xn X := by rw [hn]; decide
  have hn5 : 5 < xn X := by rw [hn]; decide
  have hn7 : 7 < xn X := by rw [hn]; decide
  intro fuel
  induction fuel with
  | zero => intro S y1 y2 y3 h; cases (show none = some ((1 : Int32), S') from h)
  | succ fuel ih =>
    intro S y1 y2 y3 h
    have h : f_law_b sc L (f_law sc L fuel) S y1 y2 y3 = some ((1 : Int32), S') := h
    unfold f_law_b at h
    refine g_iload_n C (q := 3) dL_law_18 rfl rfl ?_
    refine g_aload_n C (q := 0) dL_law_19 rfl rfl ?_
    refine g_slen C hX hbl hbA dL_law_20 ?_
    refine g_bipush C (v := 6) dL_law_21 (by decide) ?_
    refine g_isub C dL_law_23 ?_
    refine g_icmp_gt C (tgt := 1134) dL_law_24 (by decide) h (fun h => ?_) (fun h => ?_)
    · refine g_iconst C (v := 1) dL_law_1134 (by decide) ?_
      exact hret _ _ _ dL_law_1135
    · refine g_aload_n C (q := 0) dL_law_27 rfl rfl ?_
      refine g_iload_n C (q := 3) dL_law_28 rfl rfl ?_
      refine g_sld C hX hbl hbA dL_law_29 h (fun i1 h => ?_)
      refine g_bipush C (v := 31) dL_law_30 (by decide) ?_
      refine g_iand C dL_law_32 ?_
      by_cases c1 : ((sc i1) &&& 31) = 0
      · have h := if_el1 h c1
        refine g_tswIn C (v := 0) (tgt := 164) dL_law_33 c1 (by decide) (by decide) rfl (by decide) ?_
        refine g_aload_n C (q := 1) dL_law_164 rfl rfl ?_
        refine g_aload_n C (q := 0) dL_law_165 rfl rfl ?_
        refine g_iload_n C (q := 3) dL_law_166 rfl rfl ?_
        refine g_iconst C (v := 1) dL_law_167 (by decide) ?_
        refine g_iadd C dL_law_168 ?_
        refine g_sld C hX hbl hbA dL_law_169 h (fun i2 h => ?_)
        refine g_aload_n C (q := 0) dL_law_170 rfl rfl ?_
        refine g_iload_n C (q := 3) dL_law_171 rfl rfl ?_
        refine g_iconst C (v := 2) dL_law_172 (by decide) ?_
        refine g_iadd C dL_law_173 ?_
        refine g_sld C hX hbl hbA dL_law_174 h (fun i3 h => ?_)
        refine g_callVI C (ci := 5) (As := [.int (sc i2), .int (sc i3)]) (np := 2) (st := []) (r := y1) rfl (by decide) (fun b1 q hq => c_X5_addGuide S b1 (sc i2) (sc i3) q hq) gv_RL_X5_addGuide rfl rfl dsX5_addGuide rfl ⟨Nat.le_of_ble_eq_true rfl, Nat.le_of_ble_eq_true rfl⟩ rfl (cat_sum (Nat.le_of_ble_eq_true rfl)) ⟨Nat.le_refl _, Nat.le_refl _⟩ dL_law_175 h (fun v1 S1 h => ?_)
        refine g_aload_n C (q := 2) dL_law_178 rfl rfl ?_
        refine g_aload_n C (q := 0) dL_law_179 rfl rfl ?_
        refine g_iload_n C (q := 3) dL_law_180 rfl rfl ?_
        refine g_iconst C (v := 1) dL_law_181 (by decide) ?_
        refine g_iadd C dL_law_182 ?_
        refine g_sld C hX hbl hbA dL_law_183 h (fun i4 h => ?_)
        refine g_aload_n C (q := 0) dL_law_184 rfl rfl ?_
        refine g_iload_n C (q := 3) dL_law_185 rfl rfl ?_
        refine g_iconst C (v := 2) dL_law_186 (by decide) ?_
        refine g_iadd C dL_law_187 ?_
        refine g_sld C hX hbl hbA dL_law_188 h (fun i5 h => ?_)
        refine g_callVI C (ci := 6) (As := [.int (sc i4), .int (sc i5)]) (np := 2) (st := [.int v1]) (r := y2) rfl (by decide) (fun b2 q hq => c_X6_addGuide S1 b2 (sc i4) (sc i5) q hq) gv_RL_X6_addGuide rfl rfl dsX6_addGuide rfl ⟨Nat.le_of_ble_eq_true rfl, Nat.le_of_ble_eq_true rfl⟩ rfl (cat_sum (Nat.le_of_ble_eq_true rfl)) ⟨Nat.le_refl _, Nat.le_refl _⟩ dL_law_189 h (fun v2 S2 h => ?_)
        refine g_icmp_eq C (tgt := 1128) dL_law_192 (by decide) h (fun h => ?_) (fun h => ?_)
        · obtain ⟨v3, ev3, h⟩ := bnd_ex h
          refine g_iinc C (i := 3) (lv' := [(3, .int v3), (0, va_rf (some b)), (1, va_rf y1), (2, va_rf y2)]) (q := 3) v3 dL_law_1128 rfl ev3 hn3 (by simp [va_rf_cat, catI, catJ, catD]) ?_
          refine g_goto C (tgt := 18) dL_law_1131 (by decide) ?_
          refine g_sub (lv' := [(0, va_rf (some b)), (1, va_rf y1), (2, va_rf y2), (3, .int v3)]) [1, 2, 3, 0] rfl ?_
          exact ih S2 y1 y2 v3 h
        · refine g_iconst C (v := 0) dL_law_195 (by decide) ?_
          exact law0 h
      have h := if_el2 h c1
      by_cases c2 : ((sc i1) &&& 31) = 1
      · have h := if_el1 h c2
        refine g_tswIn C (v := 1) (tgt := 197) dL_law_33 c2 (by decide) (by decide) rfl (by decide) ?_
        refine g_aload_n C (q := 1) dL_law_197 rfl rfl ?_
        refine g_aload_n C (q := 0) dL_law_198 rfl rfl ?_
        refine g_iload_n C (q := 3) dL_law_199 rfl rfl ?_
        refine g_iconst C (v := 1) dL_law_200 (by decide) ?_
        refine g_iadd C dL_law_201 ?_
        refine g_sld C hX hbl hbA dL_law_202 h (fun i6 h => ?_)
        refine g_aload_n C (q := 0) dL_law_203 rfl rfl ?_
        refine g_iload_n C (q := 3) dL_law_204 rfl rfl ?_
        refine g_iconst C (v := 2) dL_law_205 (by decide) ?_
        refine g_iadd C dL_law_206 ?_
        refine g_sld C hX hbl hbA dL_law_207 h (fun i7 h => ?_)
        refine g_aload_n C (q := 0) dL_law_208 rfl rfl ?_
        refine g_iload_n C (q := 3) dL_law_209 rfl rfl ?_
        refine g_iconst C (v := 3) dL_law_210 (by decide) ?_
        refine g_iadd C dL_law_211 ?_
        refine g_sld C hX hbl hbA dL_law_212 h (fun i8 h => ?_)
        refine g_callVI C (ci := 5) (As := [.int (sc i6), .int (sc i7), .int (sc i8)]) (np := 3) (st := []) (r := y1) rfl (by decide) (fun b3 q hq => c_X5_renew S b3 (sc i6) (sc i7) (sc i8) q hq) gv_RL_X5_renew rfl rfl dsX5_renew rfl ⟨Nat.le_of_ble_eq_true rfl, Nat.le_of_ble_eq_true rfl⟩ rfl (cat_sum (Nat.le_of_ble_eq_true rfl)) ⟨Nat.le_refl _, Nat.le_refl _⟩ dL_law_213 h (fun v4 S3 h => ?_)
        refine g_aload_n C (q := 2) dL_law_216 rfl rfl ?_
        refine g_aload_n C (q := 0) dL_law_217 rfl rfl ?_
        refine g_iload_n C (q := 3) dL_law_218 rfl rfl ?_
        refine g_iconst C (v := 1) dL_law_219 (by decide) ?_
        refine g_iadd C dL_law_220 ?_
        refine g_sld C hX hbl hbA dL_law_221 h (fun i9 h => ?_)
        refine g_aload_n C (q := 0) dL_law_222 rfl rfl ?_
        refine g_iload_n C (q := 3) dL_law_223 rfl rfl ?_
        refine g_iconst C (v := 2) dL_law_224 (by decide) ?_
        refine g_iadd C dL_law_225 ?_
        refine g_sld C hX hbl hbA dL_law_226 h (fun i10 h => ?_)
        refine g_aload_n C (q := 0) dL_law_227 rfl rfl ?_
        refine g_iload_n C (q := 3) dL_law_228 rfl rfl ?_
        refine g_iconst C (v := 3) dL_law_229 (by decide) ?_
        refine g_iadd C dL_law_230 ?_
        refine g_sld C hX hbl hbA dL_law_231 h (fun i11 h => ?_)
        refine g_callVI C (ci := 6) (As := [.int (sc i9), .int (sc i10), .int (sc i11)]) (np := 3) (st := [.int v4]) (r := y2) rfl (by decide) (fun b4 q hq => c_X6_renew S3 b4 (sc i9) (sc i10) (sc i11) q hq) gv_RL_X6_renew rfl rfl dsX6_renew rfl ⟨Nat.le_of_ble_eq_true rfl, Nat.le_of_ble_eq_true rfl⟩ rfl (cat_sum (Nat.le_of_ble_eq_true rfl)) ⟨Nat.le_refl _, Nat.le_refl _⟩ dL_law_232 h (fun v5 S4 h => ?_)
        refine g_icmp_eq C (tgt := 1128) dL_law_235 (by decide) h (fun h => ?_) (fun h => ?_)
        · obtain ⟨v6, ev6, h⟩ := bnd_ex h
          refine g_iinc C (i := 3) (lv' := [(3, .int v6), (0, va_rf (some b)), (1, va_rf y1), (2, va_rf y2)]) (q := 3) v6 dL_law_1128 rfl ev6 hn3 (by simp [va_rf_cat, catI, catJ, catD]) ?_
          refine g_goto C (tgt := 18) dL_law_1131 (by decide) ?_
          refine g_sub (lv' := [(0, va_rf (some b)), (1, va_rf y1), (2, va_rf y2), (3, .int v6)]) [1, 2, 3, 0] rfl ?_
          exact ih S4 y1 y2 v6 h
        · refine g_iconst C (v := 0) dL_law_238 (by decide) ?_
          exact law0 h
      have h := if_el2 h c2
      by_cases c3 : ((sc i1) &&& 31) = 2
      · have h := if_el1 h c3
        refine g_tswIn C (v := 2) (tgt := 240) dL_law_33 c3 (by decide) (by decide) rfl (by decide) ?_
        refine g_aload_n C (q := 1) dL_law_240 rfl rfl ?_
        refine g_aload_n C (q := 0) dL_law_241 rfl rfl ?_
        refine g_iload_n C (q := 3) dL_law_242 rfl rfl ?_
        refine g_iconst C (v := 1) dL_law_243 (by decide) ?_
        refine g_iadd C dL_law_244 ?_
        refine g_sld C hX hbl hbA dL_law_245 h (fun i12 h => ?_)
        refine g_i2l C dL_law_246 ?_
        refine g_bipush C (v := 32) dL_law_247 (by decide) ?_
        refine g_lshl C dL_law_249 ?_
        refine g_aload_n C (q := 0) dL_law_250 rfl rfl ?_
        refine g_iload_n C (q := 3) dL_law_251 rfl rfl ?_
        refine g_iconst C (v := 2) dL_law_252 (by decide) ?_
        refine g_iadd C dL_law_253 ?_
        refine g_sld C hX hbl hbA dL_law_254 h (fun i13 h => ?_)
        refine g_i2l C dL_law_255 ?_
        refine g_ldc2l C q6 dL_law_256 ?_
        refine g_land C dL_law_259 ?_
        refine g_lor C dL_law_260 ?_
        refine g_callVI C (ci := 5) (As := [.long ((((sc i12).toInt64) <<< ((32 : Int32).toInt64 &&& 63)) ||| (((sc i13).toInt64) &&& 4294967295))]) (np := 1) (st := []) (r := y1) rfl (by decide) (fun b5 q hq => c_X5_addBridge S b5 ((((sc i12).toInt64) <<< ((32 : Int32).toInt64 &&& 63)) ||| (((sc i13).toInt64) &&& 4294967295)) q hq) gv_RL_X5_addBridge rfl rfl dsX5_addBridge rfl ⟨Nat.le_of_ble_eq_true rfl, Nat.le_of_ble_eq_true rfl⟩ rfl (cat_sum (Nat.le_of_ble_eq_true rfl)) ⟨Nat.le_refl _, Nat.le_refl _⟩ dL_law_261 h (fun v7 S5 h => ?_)
        refine g_aload_n C (q := 2) dL_law_264 rfl rfl ?_
        refine g_aload_n C (q := 0) dL_law_265 rfl rfl ?_
        refine g_iload_n C (q := 3) dL_law_266 rfl rfl ?_
        refine g_iconst C (v := 1) dL_law_267 (by decide) ?_
        refine g_iadd C dL_law_268 ?_
        refine g_sld C hX hbl hbA dL_law_269 h (fun i14 h => ?_)
        refine g_i2l C dL_law_270 ?_
        refine g_bipush C (v := 32) dL_law_271 (by decide) ?_
        refine g_lshl C dL_law_273 ?_
        refine g_aload_n C (q := 0) dL_law_274 rfl rfl ?_
        refine g_iload_n C (q := 3) dL_law_275 rfl rfl ?_
        refine g_iconst C (v := 2) dL_law_276 (by decide) ?_
        refine g_iadd C dL_law_277 ?_
        refine g_sld C hX hbl hbA dL_law_278 h (fun i15 h => ?_)
        refine g_i2l C dL_law_279 ?_
        refine g_ldc2l C q6 dL_law_280 ?_
        refine g_land C dL_law_283 ?_
        refine g_lor C dL_law_284 ?_
        refine g_callVI C (ci := 6) (As := [.long ((((sc i14).toInt64) <<< ((32 : Int32).toInt64 &&& 63)) ||| (((sc i15).toInt64) &&& 4294967295))]) (np := 1) (st := [.int v7]) (r := y2) rfl (by decide) (fun b6 q hq => c_X6_addBridge S5 b6 ((((sc i14).toInt64) <<< ((32 : Int32).toInt64 &&& 63)) ||| (((sc i15).toInt64) &&& 4294967295)) q hq) gv_RL_X6_addBridge rfl rfl dsX6_addBridge rfl ⟨Nat.le_of_ble_eq_true rfl, Nat.le_of_ble_eq_true rfl⟩ rfl (cat_sum (Nat.le_of_ble_eq_true rfl)) ⟨Nat.le_refl _, Nat.le_refl _⟩ dL_law_285 h (fun v8 S6 h => ?_)
        refine g_icmp_eq C (tgt := 1128) dL_law_288 (by decide) h (fun h => ?_) (fun h => ?_)
        · obtain ⟨v9, ev9, h⟩ := bnd_ex h
          refine g_iinc C (i := 3) (lv' := [(3, .int v9), (0, va_rf (some b)), (1, va_rf y1), (2, va_rf y2)]) (q := 3) v9 dL_law_1128 rfl ev9 hn3 (by simp [va_rf_cat, catI, catJ, catD]) ?_
          refine g_goto C (tgt := 18) dL_law_1131 (by decide) ?_
          refine g_sub (lv' := [(0, va_rf (some b)), (1, va_rf y1), (2, va_rf y2), (3, .int v9)]) [1, 2, 3, 0] rfl ?_
          exact ih S6 y1 y2 v9 h
        · refine g_iconst C (v := 0) dL_law_291 (by decide) ?_
          exact law0 h
      have h := if_el2 h c3
      by_cases c4 : ((sc i1) &&& 31) = 3
      · have h := if_el1 h c4
        refine g_tswIn C (v := 3) (tgt := 293) dL_law_33 c4 (by decide) (by decide) rfl (by decide) ?_
        refine g_aload_n C (q := 1) dL_law_293 rfl rfl ?_
        refine g_aload_n C (q := 0) dL_law_294 rfl rfl ?_
        refine g_iload_n C (q := 3) dL_law_295 rfl rfl ?_
        refine g_iconst C (v := 1) dL_law_296 (by decide) ?_
        refine g_iadd C dL_law_297 ?_
        refine g_sld C hX hbl hbA dL_law_298 h (fun i16 h => ?_)
        refine g_i2l C dL_law_299 ?_
        refine g_bipush C (v := 32) dL_law_300 (by decide) ?_
        refine g_lshl C dL_law_302 ?_
        refine g_aload_n C (q := 0) dL_law_303 rfl rfl ?_
        refine g_iload_n C (q := 3) dL_law_304 rfl rfl ?_
        refine g_iconst C (v := 2) dL_law_305 (by decide) ?_
        refine g_iadd C dL_law_306 ?_
        refine g_sld C hX hbl hbA dL_law_307 h (fun i17 h => ?_)
        refine g_i2l C dL_law_308 ?_
        refine g_ldc2l C q6 dL_law_309 ?_
        refine g_land C dL_law_312 ?_
        refine g_lor C dL_law_313 ?_
        refine g_callVI C (ci := 5) (As := [.long ((((sc i16).toInt64) <<< ((32 : Int32).toInt64 &&& 63)) ||| (((sc i17).toInt64) &&& 4294967295))]) (np := 1) (st := []) (r := y1) rfl (by decide) (fun b7 q hq => c_X5_setTemperature S b7 ((((sc i16).toInt64) <<< ((32 : Int32).toInt64 &&& 63)) ||| (((sc i17).toInt64) &&& 4294967295)) q hq) gv_RL_X5_setTemperature rfl rfl dsX5_setTemperature rfl ⟨Nat.le_of_ble_eq_true rfl, Nat.le_of_ble_eq_true rfl⟩ rfl (cat_sum (Nat.le_of_ble_eq_true rfl)) ⟨Nat.le_refl _, Nat.le_refl _⟩ dL_law_314 h (fun v10 S7 h => ?_)
        refine g_aload_n C (q := 2) dL_law_317 rfl rfl ?_
        refine g_aload_n C (q := 0) dL_law_318 rfl rfl ?_
        refine g_iload_n C (q := 3) dL_law_319 rfl rfl ?_
        refine g_iconst C (v := 1) dL_law_320 (by decide) ?_
        refine g_iadd C dL_law_321 ?_
        refine g_sld C hX hbl hbA dL_law_322 h (fun i18 h => ?_)
        refine g_i2l C dL_law_323 ?_
        refine g_bipush C (v := 32) dL_law_324 (by decide) ?_
        refine g_lshl C dL_law_326 ?_
        refine g_aload_n C (q := 0) dL_law_327 rfl rfl ?_
        refine g_iload_n C (q := 3) dL_law_328 rfl rfl ?_
        refine g_iconst C (v := 2) dL_law_329 (by decide) ?_
        refine g_iadd C dL_law_330 ?_
        refine g_sld C hX hbl hbA dL_law_331 h (fun i19 h => ?_)
        refine g_i2l C dL_law_332 ?_
        refine g_ldc2l C q6 dL_law_333 ?_
        refine g_land C dL_law_336 ?_
        refine g_lor C dL_law_337 ?_
        refine g_callVI C (ci := 6) (As := [.long ((((sc i18).toInt64) <<< ((32 : Int32).toInt64 &&& 63)) ||| (((sc i19).toInt64) &&& 4294967295))]) (np := 1) (st := [.int v10]) (r := y2) rfl (by decide) (fun b8 q hq => c_X6_setTemperature S7 b8 ((((sc i18).toInt64) <<< ((32 : Int32).toInt64 &&& 63)) ||| (((sc i19).toInt64) &&& 4294967295)) q hq) gv_RL_X6_setTemperature rfl rfl dsX6_setTemperature rfl ⟨Nat.le_of_ble_eq_true rfl, Nat.le_of_ble_eq_true rfl⟩ rfl (cat_sum (Nat.le_of_ble_eq_true rfl)) ⟨Nat.le_refl _, Nat.le_refl _⟩ dL_law_338 h (fun v11 S8 h => ?_)
        refine g_icmp_eq C (tgt := 1128) dL_law_341 (by decide) h (fun h => ?_) (fun h => ?_)
        · obtain ⟨v12, ev12, h⟩ := bnd_ex h
          refine g_iinc C (i := 3) (lv' := [(3, .int v12), (0, va_rf (some b)), (1, va_rf y1), (2, va_rf y2)]) (q := 3) v12 dL_law_1128 rfl ev12 hn3 (by simp [va_rf_cat, catI, catJ, catD]) ?_
          refine g_goto C (tgt := 18) dL_law_1131 (by decide) ?_
          refine g_sub (lv' := [(0, va_rf (some b)), (1, va_rf y1), (2, va_rf y2), (3, .int v12)]) [1, 2, 3, 0] rfl ?_
          exact ih S8 y1 y2 v12 h
        · refine g_iconst C (v := 0) dL_law_344 (by decide) ?_
          exact law0 h
      have h := if_el2 h c4
      by_cases c5 : ((sc i1) &&& 31) = 4
      · have h := if_el1 h c5
        refine g_tswIn C (v := 4) (tgt := 346) dL_law_33 c5 (by decide) (by decide) rfl (by decide) ?_
        refine g_aload_n C (q := 1) dL_law_346 rfl rfl ?_
        refine g_aload_n C (q := 0) dL_law_347 rfl rfl ?_
        refine g_iload_n C (q := 3) dL_law_348 rfl rfl ?_
        refine g_iconst C (v := 1) dL_law_349 (by decide) ?_
        refine g_iadd C dL_law_350 ?_
        refine g_sld C hX hbl hbA dL_law_351 h (fun i20 h => ?_)
        refine g_aload_n C (q := 0) dL_law_352 rfl rfl ?_
        refine g_iload_n C (q := 3) dL_law_353 rfl rfl ?_
        refine g_iconst C (v := 2) dL_law_354 (by decide) ?_
        refine g_iadd C dL_law_355 ?_
        refine g_sld C hX hbl hbA dL_law_356 h (fun i21 h => ?_)
        refine g_i2l C dL_law_357 ?_
        refine g_bipush C (v := 32) dL_law_358 (by decide) ?_
        refine g_lshl C dL_law_360 ?_
        refine g_aload_n C (q := 0) dL_law_361 rfl rfl ?_
        refine g_iload_n C (q := 3) dL_law_362 rfl rfl ?_
        refine g_iconst C (v := 3) dL_law_363 (by decide) ?_
        refine g_iadd C dL_law_364 ?_
        refine g_sld C hX hbl hbA dL_law_365 h (fun i22 h => ?_)
        refine g_i2l C dL_law_366 ?_
        refine g_ldc2l C q6 dL_law_367 ?_
        refine g_land C dL_law_370 ?_
        refine g_lor C dL_law_371 ?_
        refine g_aload_n C (q := 0) dL_law_372 rfl rfl ?_
        refine g_iload_n C (q := 3) dL_law_373 rfl rfl ?_
        refine g_iconst C (v := 4) dL_law_374 (by decide) ?_
        refine g_iadd C dL_law_375 ?_
        refine g_sld C hX hbl hbA dL_law_376 h (fun i23 h => ?_)
        refine g_aload_n C (q := 0) dL_law_377 rfl rfl ?_
        refine g_iload_n C (q := 3) dL_law_378 rfl rfl ?_
        refine g_iconst C (v := 5) dL_law_379 (by decide) ?_
        refine g_iadd C dL_law_380 ?_
        refine g_sld C hX hbl hbA dL_law_381 h (fun i24 h => ?_)
        refine g_callVI C (ci := 5) (As := [.int (sc i20), .long ((((sc i21).toInt64) <<< ((32 : Int32).toInt64 &&& 63)) ||| (((sc i22).toInt64) &&& 4294967295)), .int (sc i23), .int (sc i24)]) (np := 4) (st := []) (r := y1) rfl (by decide) (fun b9 q hq => c_X5_addTour S b9 (sc i20) ((((sc i21).toInt64) <<< ((32 : Int32).toInt64 &&& 63)) ||| (((sc i22).toInt64) &&& 4294967295)) (sc i23) (sc i24) q hq) gv_RL_X5_addTour rfl rfl dsX5_addTour rfl ⟨Nat.le_of_ble_eq_true rfl, Nat.le_of_ble_eq_true rfl⟩ rfl (cat_sum (Nat.le_of_ble_eq_true rfl)) ⟨Nat.le_refl _, Nat.le_refl _⟩ dL_law_382 h (fun v13 S9 h => ?_)
        refine g_aload_n C (q := 2) dL_law_385 rfl rfl ?_
        refine g_aload_n C (q := 0) dL_law_386 rfl rfl ?_
        refine g_iload_n C (q := 3) dL_law_387 rfl rfl ?_
        refine g_iconst C (v := 1) dL_law_388 (by decide) ?_
        refine g_iadd C dL_law_389 ?_
        refine g_sld C hX hbl hbA dL_law_390 h (fun i25 h => ?_)
        refine g_aload_n C (q := 0) dL_law_391 rfl rfl ?_
        refine g_iload_n C (q := 3) dL_law_392 rfl rfl ?_
        refine g_iconst C (v := 2) dL_law_393 (by decide) ?_
        refine g_iadd C dL_law_394 ?_
        refine g_sld C hX hbl hbA dL_law_395 h (fun i26 h => ?_)
        refine g_i2l C dL_law_396 ?_
        refine g_bipush C (v := 32) dL_law_397 (by decide) ?_
        refine g_lshl C dL_law_399 ?_
        refine g_aload_n C (q := 0) dL_law_400 rfl rfl ?_
        refine g_iload_n C (q := 3) dL_law_401 rfl rfl ?_
        refine g_iconst C (v := 3) dL_law_402 (by decide) ?_
        refine g_iadd C dL_law_403 ?_
        refine g_sld C hX hbl hbA dL_law_404 h (fun i27 h => ?_)
        refine g_i2l C dL_law_405 ?_
        refine g_ldc2l C q6 dL_law_406 ?_
        refine g_land C dL_law_409 ?_
        refine g_lor C dL_law_410 ?_
        refine g_aload_n C (q := 0) dL_law_411 rfl rfl ?_
        refine g_iload_n C (q := 3) dL_law_412 rfl rfl ?_
        refine g_iconst C (v := 4) dL_law_413 (by decide) ?_
        refine g_iadd C dL_law_414 ?_
        refine g_sld C hX hbl hbA dL_law_415 h (fun i28 h => ?_)
        refine g_aload_n C (q := 0) dL_law_416 rfl rfl ?_
        refine g_iload_n C (q := 3) dL_law_417 rfl rfl ?_
        refine g_iconst C (v := 5) dL_law_418 (by decide) ?_
        refine g_iadd C dL_law_419 ?_
        refine g_sld C hX hbl hbA dL_law_420 h (fun i29 h => ?_)
        refine g_callVI C (ci := 6) (As := [.int (sc i25), .long ((((sc i26).toInt64) <<< ((32 : Int32).toInt64 &&& 63)) ||| (((sc i27).toInt64) &&& 4294967295)), .int (sc i28), .int (sc i29)]) (np := 4) (st := [.int v13]) (r := y2) rfl (by decide) (fun b10 q hq => c_X6_addTour S9 b10 (sc i25) ((((sc i26).toInt64) <<< ((32 : Int32).toInt64 &&& 63)) ||| (((sc i27).toInt64) &&& 4294967295)) (sc i28) (sc i29) q hq) gv_RL_X6_addTour rfl rfl dsX6_addTour rfl ⟨Nat.le_of_ble_eq_true rfl, Nat.le_of_ble_eq_true rfl⟩ rfl (cat_sum (Nat.le_of_ble_eq_true rfl)) ⟨Nat.le_refl _, Nat.le_refl _⟩ dL_law_421 h (fun v14 S10 h => ?_)
        refine g_icmp_eq C (tgt := 1128) dL_law_424 (by decide) h (fun h => ?_) (fun h => ?_)
        · obtain ⟨v15, ev15, h⟩ := bnd_ex h
          refine g_iinc C (i := 3) (lv' := [(3, .int v15), (0, va_rf (some b)), (1, va_rf y1), (2, va_rf y2)]) (q := 3) v15 dL_law_1128 rfl ev15 hn3 (by simp [va_rf_cat, catI, catJ, catD]) ?_
          refine g_goto C (tgt := 18) dL_law_1131 (by decide) ?_
          refine g_sub (lv' := [(0, va_rf (some b)), (1, va_rf y1), (2, va_rf y2), (3, .int v15)]) [1, 2, 3, 0] rfl ?_
          exact ih S10 y1 y2 v15 h
        · refine g_iconst C (v := 0) dL_law_427 (by decide) ?_
          exact law0 h
      have h := if_el2 h c5
      by_cases c6 : ((sc i1) &&& 31) = 5
      · have h := if_el1 h c6
        refine g_tswIn C (v := 5) (tgt := 429) dL_law_33 c6 (by decide) (by decide) rfl (by decide) ?_
        refine g_aload_n C (q := 1) dL_law_429 rfl rfl ?_
        refine g_aload_n C (q := 0) dL_law_430 rfl rfl ?_
        refine g_iload_n C (q := 3) dL_law_431 rfl rfl ?_
        refine g_iconst C (v := 1) dL_law_432 (by decide) ?_
        refine g_iadd C dL_law_433 ?_
        refine g_sld C hX hbl hbA dL_law_434 h (fun i30 h => ?_)
        refine g_aload_n C (q := 0) dL_law_435 rfl rfl ?_
        refine g_iload_n C (q := 3) dL_law_436 rfl rfl ?_
        refine g_iconst C (v := 2) dL_law_437 (by decide) ?_
        refine g_iadd C dL_law_438 ?_
        refine g_sld C hX hbl hbA dL_law_439 h (fun i31 h => ?_)
        refine g_callVI C (ci := 5) (As := [.int (sc i30), .int (sc i31)]) (np := 2) (st := []) (r := y1) rfl (by decide) (fun b11 q hq => c_X5_book S b11 (sc i30) (sc i31) q hq) gv_RL_X5_book rfl rfl dsX5_book rfl ⟨Nat.le_of_ble_eq_true rfl, Nat.le_of_ble_eq_true rfl⟩ rfl (cat_sum (Nat.le_of_ble_eq_true rfl)) ⟨Nat.le_refl _, Nat.le_refl _⟩ dL_law_440 h (fun v16 S11 h => ?_)
        refine g_aload_n C (q := 2) dL_law_443 rfl rfl ?_
        refine g_aload_n C (q := 0) dL_law_444 rfl rfl ?_
        refine g_iload_n C (q := 3) dL_law_445 rfl rfl ?_
        refine g_iconst C (v := 1) dL_law_446 (by decide) ?_
        refine g_iadd C dL_law_447 ?_
        refine g_sld C hX hbl hbA dL_law_448 h (fun i32 h => ?_)
        refine g_aload_n C (q := 0) dL_law_449 rfl rfl ?_
        refine g_iload_n C (q := 3) dL_law_450 rfl rfl ?_
        refine g_iconst C (v := 2) dL_law_451 (by decide) ?_
        refine g_iadd C dL_law_452 ?_
        refine g_sld C hX hbl hbA dL_law_453 h (fun i33 h => ?_)
        refine g_callVI C (ci := 6) (As := [.int (sc i32), .int (sc i33)]) (np := 2) (st := [.int v16]) (r := y2) rfl (by decide) (fun b12 q hq => c_X6_book S11 b12 (sc i32) (sc i33) q hq) gv_RL_X6_book rfl rfl dsX6_book rfl ⟨Nat.le_of_ble_eq_true rfl, Nat.le_of_ble_eq_true rfl⟩ rfl (cat_sum (Nat.le_of_ble_eq_true rfl)) ⟨Nat.le_refl _, Nat.le_refl _⟩ dL_law_454 h (fun v17 S12 h => ?_)
        refine g_icmp_eq C (tgt := 1128) dL_law_457 (by decide) h (fun h => ?_) (fun h => ?_)
        · obtain ⟨v18, ev18, h⟩ := bnd_ex h
          refine g_iinc C (i := 3) (lv' := [(3, .int v18), (0, va_rf (some b)), (1, va_rf y1), (2, va_rf y2)]) (q := 3) v18 dL_law_1128 rfl ev18 hn3 (by simp [va_rf_cat, catI, catJ, catD]) ?_
          refine g_goto C (tgt := 18) dL_law_1131 (by decide) ?_
          refine g_sub (lv' := [(0, va_rf (some b)), (1, va_rf y1), (2, va_rf y2), (3, .int v18)]) [1, 2, 3, 0] rfl ?_
          exact ih S12 y1 y2 v18 h
        · refine g_iconst C (v := 0) dL_law_460 (by decide) ?_
          exact law0 h
      have h := if_el2 h c6
      by_cases c7 : ((sc i1) &&& 31) = 6
      · have h := if_el1 h c7
        refine g_tswIn C (v := 6) (tgt := 462) dL_law_33 c7 (by decide) (by decide) rfl (by decide) ?_
        refine g_aload_n C (q := 1) dL_law_462 rfl rfl ?_
        refine g_aload_n C (q := 0) dL_law_463 rfl rfl ?_
        refine g_iload_n C (q := 3) dL_law_464 rfl rfl ?_
        refine g_iconst C (v := 1) dL_law_465 (by decide) ?_
        refine g_iadd C dL_law_466 ?_
        refine g_sld C hX hbl hbA dL_law_467 h (fun i34 h => ?_)
        refine g_aload_n C (q := 0) dL_law_468 rfl rfl ?_
        refine g_iload_n C (q := 3) dL_law_469 rfl rfl ?_
        refine g_iconst C (v := 2) dL_law_470 (by decide) ?_
        refine g_iadd C dL_law_471 ?_
        refine g_sld C hX hbl hbA dL_law_472 h (fun i35 h => ?_)
        refine g_callVI C (ci := 5) (As := [.int (sc i34), .int (sc i35)]) (np := 2) (st := []) (r := y1) rfl (by decide) (fun b13 q hq => c_X5_leave S b13 (sc i34) (sc i35) q hq) gv_RL_X5_leave rfl rfl dsX5_leave rfl ⟨Nat.le_of_ble_eq_true rfl, Nat.le_of_ble_eq_true rfl⟩ rfl (cat_sum (Nat.le_of_ble_eq_true rfl)) ⟨Nat.le_refl _, Nat.le_refl _⟩ dL_law_473 h (fun v19 S13 h => ?_)
        refine g_aload_n C (q := 2) dL_law_476 rfl rfl ?_
        refine g_aload_n C (q := 0) dL_law_477 rfl rfl ?_
        refine g_iload_n C (q := 3) dL_law_478 rfl rfl ?_
        refine g_iconst C (v := 1) dL_law_479 (by decide) ?_
        refine g_iadd C dL_law_480 ?_
        refine g_sld C hX hbl hbA dL_law_481 h (fun i36 h => ?_)
        refine g_aload_n C (q := 0) dL_law_482 rfl rfl ?_
        refine g_iload_n C (q := 3) dL_law_483 rfl rfl ?_
        refine g_iconst C (v := 2) dL_law_484 (by decide) ?_
        refine g_iadd C dL_law_485 ?_
        refine g_sld C hX hbl hbA dL_law_486 h (fun i37 h => ?_)
        refine g_callVI C (ci := 6) (As := [.int (sc i36), .int (sc i37)]) (np := 2) (st := [.int v19]) (r := y2) rfl (by decide) (fun b14 q hq => c_X6_leave S13 b14 (sc i36) (sc i37) q hq) gv_RL_X6_leave rfl rfl dsX6_leave rfl ⟨Nat.le_of_ble_eq_true rfl, Nat.le_of_ble_eq_true rfl⟩ rfl (cat_sum (Nat.le_of_ble_eq_true rfl)) ⟨Nat.le_refl _, Nat.le_refl _⟩ dL_law_487 h (fun v20 S14 h => ?_)
        refine g_icmp_eq C (tgt := 1128) dL_law_490 (by decide) h (fun h => ?_) (fun h => ?_)
        · obtain ⟨v21, ev21, h⟩ := bnd_ex h
          refine g_iinc C (i := 3) (lv' := [(3, .int v21), (0, va_rf (some b)), (1, va_rf y1), (2, va_rf y2)]) (q := 3) v21 dL_law_1128 rfl ev21 hn3 (by simp [va_rf_cat, catI, catJ, catD]) ?_
          refine g_goto C (tgt := 18) dL_law_1131 (by decide) ?_
          refine g_sub (lv' := [(0, va_rf (some b)), (1, va_rf y1), (2, va_rf y2), (3, .int v21)]) [1, 2, 3, 0] rfl ?_
          exact ih S14 y1 y2 v21 h
        · refine g_iconst C (v := 0) dL_law_493 (by decide) ?_
          exact law0 h
      have h := if_el2 h c7
      by_cases c8 : ((sc i1) &&& 31) = 7
      · have h := if_el1 h c8
        refine g_tswIn C (v := 7) (tgt := 495) dL_law_33 c8 (by decide) (by decide) rfl (by decide) ?_
        refine g_aload_n C (q := 1) dL_law_495 rfl rfl ?_
        refine g_aload_n C (q := 0) dL_law_496 rfl rfl ?_
        refine g_iload_n C (q := 3) dL_law_497 rfl rfl ?_
        refine g_iconst C (v := 1) dL_law_498 (by decide) ?_
        refine g_iadd C dL_law_499 ?_
        refine g_sld C hX hbl hbA dL_law_500 h (fun i38 h => ?_)
        refine g_aload_n C (q := 0) dL_law_501 rfl rfl ?_
        refine g_iload_n C (q := 3) dL_law_502 rfl rfl ?_
        refine g_iconst C (v := 2) dL_law_503 (by decide) ?_
        refine g_iadd C dL_law_504 ?_
        refine g_sld C hX hbl hbA dL_law_505 h (fun i39 h => ?_)
        refine g_callVI C (ci := 5) (As := [.int (sc i38), .int (sc i39)]) (np := 2) (st := []) (r := y1) rfl (by decide) (fun b15 q hq => c_X5_lead S b15 (sc i38) (sc i39) q hq) gv_RL_X5_lead rfl rfl dsX5_lead rfl ⟨Nat.le_of_ble_eq_true rfl, Nat.le_of_ble_eq_true rfl⟩ rfl (cat_sum (Nat.le_of_ble_eq_true rfl)) ⟨Nat.le_refl _, Nat.le_refl _⟩ dL_law_506 h (fun v22 S15 h => ?_)
        refine g_aload_n C (q := 2) dL_law_509 rfl rfl ?_
        refine g_aload_n C (q := 0) dL_law_510 rfl rfl ?_
        refine g_iload_n C (q := 3) dL_law_511 rfl rfl ?_
        refine g_iconst C (v := 1) dL_law_512 (by decide) ?_
        refine g_iadd C dL_law_513 ?_
        refine g_sld C hX hbl hbA dL_law_514 h (fun i40 h => ?_)
        refine g_aload_n C (q := 0) dL_law_515 rfl rfl ?_
        refine g_iload_n C (q := 3) dL_law_516 rfl rfl ?_
        refine g_iconst C (v := 2) dL_law_517 (by decide) ?_
        refine g_iadd C dL_law_518 ?_
        refine g_sld C hX hbl hbA dL_law_519 h (fun i41 h => ?_)
        refine g_callVI C (ci := 6) (As := [.int (sc i40), .int (sc i41)]) (np := 2) (st := [.int v22]) (r := y2) rfl (by decide) (fun b16 q hq => c_X6_lead S15 b16 (sc i40) (sc i41) q hq) gv_RL_X6_lead rfl rfl dsX6_lead rfl ⟨Nat.le_of_ble_eq_true rfl, Nat.le_of_ble_eq_true rfl⟩ rfl (cat_sum (Nat.le_of_ble_eq_true rfl)) ⟨Nat.le_refl _, Nat.le_refl _⟩ dL_law_520 h (fun v23 S16 h => ?_)
        refine g_icmp_eq C (tgt := 1128) dL_law_523 (by decide) h (fun h => ?_) (fun h => ?_)
        · obtain ⟨v24, ev24, h⟩ := bnd_ex h
          refine g_iinc C (i := 3) (lv' := [(3, .int v24), (0, va_rf (some b)), (1, va_rf y1), (2, va_rf y2)]) (q := 3) v24 dL_law_1128 rfl ev24 hn3 (by simp [va_rf_cat, catI, catJ, catD]) ?_
          refine g_goto C (tgt := 18) dL_law_1131 (by decide) ?_
          refine g_sub (lv' := [(0, va_rf (some b)), (1, va_rf y1), (2, va_rf y2), (3, .int v24)]) [1, 2, 3, 0] rfl ?_
          exact ih S16 y1 y2 v24 h
        · refine g_iconst C (v := 0) dL_law_526 (by decide) ?_
          exact law0 h
      have h := if_el2 h c8
      by_cases c9 : ((sc i1) &&& 31) = 8
      · have h := if_el1 h c9
        refine g_tswIn C (v := 8) (tgt := 528) dL_law_33 c9 (by decide) (by decide) rfl (by decide) ?_
        refine g_aload_n C (q := 1) dL_law_528 rfl rfl ?_
        refine g_aload_n C (q := 0) dL_law_529 rfl rfl ?_
        refine g_iload_n C (q := 3) dL_law_530 rfl rfl ?_
        refine g_iconst C (v := 1) dL_law_531 (by decide) ?_
        refine g_iadd C dL_law_532 ?_
        refine g_sld C hX hbl hbA dL_law_533 h (fun i42 h => ?_)
        refine g_aload_n C (q := 0) dL_law_534 rfl rfl ?_
        refine g_iload_n C (q := 3) dL_law_535 rfl rfl ?_
        refine g_iconst C (v := 2) dL_law_536 (by decide) ?_
        refine g_iadd C dL_law_537 ?_
        refine g_sld C hX hbl hbA dL_law_538 h (fun i43 h => ?_)
        refine g_callVI C (ci := 5) (As := [.int (sc i42), .int (sc i43)]) (np := 2) (st := []) (r := y1) rfl (by decide) (fun b17 q hq => c_X5_release S b17 (sc i42) (sc i43) q hq) gv_RL_X5_release rfl rfl dsX5_release rfl ⟨Nat.le_of_ble_eq_true rfl, Nat.le_of_ble_eq_true rfl⟩ rfl (cat_sum (Nat.le_of_ble_eq_true rfl)) ⟨Nat.le_refl _, Nat.le_refl _⟩ dL_law_539 h (fun v25 S17 h => ?_)
        refine g_aload_n C (q := 2) dL_law_542 rfl rfl ?_
        refine g_aload_n C (q := 0) dL_law_543 rfl rfl ?_
        refine g_iload_n C (q := 3) dL_law_544 rfl rfl ?_
        refine g_iconst C (v := 1) dL_law_545 (by decide) ?_
        refine g_iadd C dL_law_546 ?_
        refine g_sld C hX hbl hbA dL_law_547 h (fun i44 h => ?_)
        refine g_aload_n C (q := 0) dL_law_548 rfl rfl ?_
        refine g_iload_n C (q := 3) dL_law_549 rfl rfl ?_
        refine g_iconst C (v := 2) dL_law_550 (by decide) ?_
        refine g_iadd C dL_law_551 ?_
        refine g_sld C hX hbl hbA dL_law_552 h (fun i45 h => ?_)
        refine g_callVI C (ci := 6) (As := [.int (sc i44), .int (sc i45)]) (np := 2) (st := [.int v25]) (r := y2) rfl (by decide) (fun b18 q hq => c_X6_release S17 b18 (sc i44) (sc i45) q hq) gv_RL_X6_release rfl rfl dsX6_release rfl ⟨Nat.le_of_ble_eq_true rfl, Nat.le_of_ble_eq_true rfl⟩ rfl (cat_sum (Nat.le_of_ble_eq_true rfl)) ⟨Nat.le_refl _, Nat.le_refl _⟩ dL_law_553 h (fun v26 S18 h => ?_)
        refine g_icmp_eq C (tgt := 1128) dL_law_556 (by decide) h (fun h => ?_) (fun h => ?_)
        · obtain ⟨v27, ev27, h⟩ := bnd_ex h
          refine g_iinc C (i := 3) (lv' := [(3, .int v27), (0, va_rf (some b)), (1, va_rf y1), (2, va_rf y2)]) (q := 3) v27 dL_law_1128 rfl ev27 hn3 (by simp [va_rf_cat, catI, catJ, catD]) ?_
          refine g_goto C (tgt := 18) dL_law_1131 (by decide) ?_
          refine g_sub (lv' := [(0, va_rf (some b)), (1, va_rf y1), (2, va_rf y2), (3, .int v27)]) [1, 2, 3, 0] rfl ?_
          exact ih S18 y1 y2 v27 h
        · refine g_iconst C (v := 0) dL_law_559 (by decide) ?_
          exact law0 h
      have h := if_el2 h c9
      by_cases c10 : ((sc i1) &&& 31) = 9
      · have h := if_el1 h c10
        refine g_tswIn C (v := 9) (tgt := 561) dL_law_33 c10 (by decide) (by decide) rfl (by decide) ?_
        refine g_aload_n C (q := 1) dL_law_561 rfl rfl ?_
        refine g_aload_n C (q := 0) dL_law_562 rfl rfl ?_
        refine g_iload_n C (q := 3) dL_law_563 rfl rfl ?_
        refine g_iconst C (v := 1) dL_law_564 (by decide) ?_
        refine g_iadd C dL_law_565 ?_
        refine g_sld C hX hbl hbA dL_law_566 h (fun i46 h => ?_)
        refine g_aload_n C (q := 0) dL_law_567 rfl rfl ?_
        refine g_iload_n C (q := 3) dL_law_568 rfl rfl ?_
        refine g_iconst C (v := 2) dL_law_569 (by decide) ?_
        refine g_iadd C dL_law_570 ?_
        refine g_sld C hX hbl hbA dL_law_571 h (fun i47 h => ?_)
        refine g_callVI C (ci := 5) (As := [.int (sc i46), .int (sc i47)]) (np := 2) (st := []) (r := y1) rfl (by decide) (fun b19 q hq => c_X5_merge S b19 (sc i46) (sc i47) q hq) gv_RL_X5_merge rfl rfl dsX5_merge rfl ⟨Nat.le_of_ble_eq_true rfl, Nat.le_of_ble_eq_true rfl⟩ rfl (cat_sum (Nat.le_of_ble_eq_true rfl)) ⟨Nat.le_refl _, Nat.le_refl _⟩ dL_law_572 h (fun v28 S19 h => ?_)
        refine g_aload_n C (q := 2) dL_law_575 rfl rfl ?_
        refine g_aload_n C (q := 0) dL_law_576 rfl rfl ?_
        refine g_iload_n C (q := 3) dL_law_577 rfl rfl ?_
        refine g_iconst C (v := 1) dL_law_578 (by decide) ?_
        refine g_iadd C dL_law_579 ?_
        refine g_sld C hX hbl hbA dL_law_580 h (fun i48 h => ?_)
        refine g_aload_n C (q := 0) dL_law_581 rfl rfl ?_
        refine g_iload_n C (q := 3) dL_law_582 rfl rfl ?_
        refine g_iconst C (v := 2) dL_law_583 (by decide) ?_
        refine g_iadd C dL_law_584 ?_
        refine g_sld C hX hbl hbA dL_law_585 h (fun i49 h => ?_)
        refine g_callVI C (ci := 6) (As := [.int (sc i48), .int (sc i49)]) (np := 2) (st := [.int v28]) (r := y2) rfl (by decide) (fun b20 q hq => c_X6_merge S19 b20 (sc i48) (sc i49) q hq) gv_RL_X6_merge rfl rfl dsX6_merge rfl ⟨Nat.le_of_ble_eq_true rfl, Nat.le_of_ble_eq_true rfl⟩ rfl (cat_sum (Nat.le_of_ble_eq_true rfl)) ⟨Nat.le_refl _, Nat.le_refl _⟩ dL_law_586 h (fun v29 S20 h => ?_)
        refine g_icmp_eq C (tgt := 1128) dL_law_589 (by decide) h (fun h => ?_) (fun h => ?_)
        · obtain ⟨v30, ev30, h⟩ := bnd_ex h
          refine g_iinc C (i := 3) (lv' := [(3, .int v30), (0, va_rf (some b)), (1, va_rf y1), (2, va_rf y2)]) (q := 3) v30 dL_law_1128 rfl ev30 hn3 (by simp [va_rf_cat, catI, catJ, catD]) ?_
          refine g_goto C (tgt := 18) dL_law_1131 (by decide) ?_
          refine g_sub (lv' := [(0, va_rf (some b)), (1, va_rf y1), (2, va_rf y2), (3, .int v30)]) [1, 2, 3, 0] rfl ?_
          exact ih S20 y1 y2 v30 h
        · refine g_iconst C (v := 0) dL_law_592 (by decide) ?_
          exact law0 h
      have h := if_el2 h c10
      by_cases c11 : ((sc i1) &&& 31) = 10
      · have h := if_el1 h c11
        refine g_tswIn C (v := 10) (tgt := 594) dL_law_33 c11 (by decide) (by decide) rfl (by decide) ?_
        refine g_aload_n C (q := 1) dL_law_594 rfl rfl ?_
        refine g_aload_n C (q := 0) dL_law_595 rfl rfl ?_
        refine g_iload_n C (q := 3) dL_law_596 rfl rfl ?_
        refine g_iconst C (v := 1) dL_law_597 (by decide) ?_
        refine g_iadd C dL_law_598 ?_
        refine g_sld C hX hbl hbA dL_law_599 h (fun i50 h => ?_)
        refine g_callVI C (ci := 5) (As := [.int (sc i50)]) (np := 1) (st := []) (r := y1) rfl (by decide) (fun b21 q hq => c_X5_cancel S b21 (sc i50) q hq) gv_RL_X5_cancel rfl rfl dsX5_cancel rfl ⟨Nat.le_of_ble_eq_true rfl, Nat.le_of_ble_eq_true rfl⟩ rfl (cat_sum (Nat.le_of_ble_eq_true rfl)) ⟨Nat.le_refl _, Nat.le_refl _⟩ dL_law_600 h (fun v31 S21 h => ?_)
        refine g_aload_n C (q := 2) dL_law_603 rfl rfl ?_
        refine g_aload_n C (q := 0) dL_law_604 rfl rfl ?_
        refine g_iload_n C (q := 3) dL_law_605 rfl rfl ?_
        refine g_iconst C (v := 1) dL_law_606 (by decide) ?_
        refine g_iadd C dL_law_607 ?_
        refine g_sld C hX hbl hbA dL_law_608 h (fun i51 h => ?_)
        refine g_callVI C (ci := 6) (As := [.int (sc i51)]) (np := 1) (st := [.int v31]) (r := y2) rfl (by decide) (fun b22 q hq => c_X6_cancel S21 b22 (sc i51) q hq) gv_RL_X6_cancel rfl rfl dsX6_cancel rfl ⟨Nat.le_of_ble_eq_true rfl, Nat.le_of_ble_eq_true rfl⟩ rfl (cat_sum (Nat.le_of_ble_eq_true rfl)) ⟨Nat.le_refl _, Nat.le_refl _⟩ dL_law_609 h (fun v32 S22 h => ?_)
        refine g_icmp_eq C (tgt := 1128) dL_law_612 (by decide) h (fun h => ?_) (fun h => ?_)
        · obtain ⟨v33, ev33, h⟩ := bnd_ex h
          refine g_iinc C (i := 3) (lv' := [(3, .int v33), (0, va_rf (some b)), (1, va_rf y1), (2, va_rf y2)]) (q := 3) v33 dL_law_1128 rfl ev33 hn3 (by simp [va_rf_cat, catI, catJ, catD]) ?_
          refine g_goto C (tgt := 18) dL_law_1131 (by decide) ?_
          refine g_sub (lv' := [(0, va_rf (some b)), (1, va_rf y1), (2, va_rf y2), (3, .int v33)]) [1, 2, 3, 0] rfl ?_
          exact ih S22 y1 y2 v33 h
        · refine g_iconst C (v := 0) dL_law_615 (by decide) ?_
          exact law0 h
      have h := if_el2 h c11
      by_cases c12 : ((sc i1) &&& 31) = 11
      · have h := if_el1 h c12
        refine g_tswIn C (v := 11) (tgt := 617) dL_law_33 c12 (by decide) (by decide) rfl (by decide) ?_
        refine g_aload_n C (q := 1) dL_law_617 rfl rfl ?_
        refine g_aload_n C (q := 0) dL_law_618 rfl rfl ?_
        refine g_iload_n C (q := 3) dL_law_619 rfl rfl ?_
        refine g_iconst C (v := 1) dL_law_620 (by decide) ?_
        refine g_iadd C dL_law_621 ?_
        refine g_sld C hX hbl hbA dL_law_622 h (fun i52 h => ?_)
        refine g_callVI C (ci := 5) (As := [.int (sc i52)]) (np := 1) (st := []) (r := y1) rfl (by decide) (fun b23 q hq => c_X5_pass S b23 (sc i52) q hq) gv_RL_X5_pass rfl rfl dsX5_pass rfl ⟨Nat.le_of_ble_eq_true rfl, Nat.le_of_ble_eq_true rfl⟩ rfl (cat_sum (Nat.le_of_ble_eq_true rfl)) ⟨Nat.le_refl _, Nat.le_refl _⟩ dL_law_623 h (fun v34 S23 h => ?_)
        refine g_aload_n C (q := 2) dL_law_626 rfl rfl ?_
        refine g_aload_n C (q := 0) dL_law_627 rfl rfl ?_
        refine g_iload_n C (q := 3) dL_law_628 rfl rfl ?_
        refine g_iconst C (v := 1) dL_law_629 (by decide) ?_
        refine g_iadd C dL_law_630 ?_
        refine g_sld C hX hbl hbA dL_law_631 h (fun i53 h => ?_)
        refine g_callVI C (ci := 6) (As := [.int (sc i53)]) (np := 1) (st := [.int v34]) (r := y2) rfl (by decide) (fun b24 q hq => c_X6_pass S23 b24 (sc i53) q hq) gv_RL_X6_pass rfl rfl dsX6_pass rfl ⟨Nat.le_of_ble_eq_true rfl, Nat.le_of_ble_eq_true rfl⟩ rfl (cat_sum (Nat.le_of_ble_eq_true rfl)) ⟨Nat.le_refl _, Nat.le_refl _⟩ dL_law_632 h (fun v35 S24 h => ?_)
        refine g_icmp_eq C (tgt := 1128) dL_law_635 (by decide) h (fun h => ?_) (fun h => ?_)
        · obtain ⟨v36, ev36, h⟩ := bnd_ex h
          refine g_iinc C (i := 3) (lv' := [(3, .int v36), (0, va_rf (some b)), (1, va_rf y1), (2, va_rf y2)]) (q := 3) v36 dL_law_1128 rfl ev36 hn3 (by simp [va_rf_cat, catI, catJ, catD]) ?_
          refine g_goto C (tgt := 18) dL_law_1131 (by decide) ?_
          refine g_sub (lv' := [(0, va_rf (some b)), (1, va_rf y1), (2, va_rf y2), (3, .int v36)]) [1, 2, 3, 0] rfl ?_
          exact ih S24 y1 y2 v36 h
        · refine g_iconst C (v := 0) dL_law_638 (by decide) ?_
          exact law0 h
      have h := if_el2 h c12
      by_cases c13 : ((sc i1) &&& 31) = 12
      · have h := if_el1 h c13
        refine g_tswIn C (v := 12) (tgt := 640) dL_law_33 c13 (by decide) (by decide) rfl (by decide) ?_
        refine g_aload_n C (q := 1) dL_law_640 rfl rfl ?_
        refine g_aload_n C (q := 0) dL_law_641 rfl rfl ?_
        refine g_iload_n C (q := 3) dL_law_642 rfl rfl ?_
        refine g_iconst C (v := 1) dL_law_643 (by decide) ?_
        refine g_iadd C dL_law_644 ?_
        refine g_sld C hX hbl hbA dL_law_645 h (fun i54 h => ?_)
        refine g_i2c C dL_law_646 ?_
        refine g_callVI C (ci := 5) (As := [.int (((sc i54).toUInt32 % 65536).toInt32)]) (np := 1) (st := []) (r := y1) rfl (by decide) (fun b25 q hq => c_X5_type S b25 (((sc i54).toUInt32 % 65536).toInt32) q hq) gv_RL_X5_type rfl rfl dsX5_type rfl ⟨Nat.le_of_ble_eq_true rfl, Nat.le_of_ble_eq_true rfl⟩ rfl (cat_sum (Nat.le_of_ble_eq_true rfl)) ⟨Nat.le_refl _, Nat.le_refl _⟩ dL_law_647 h (fun v37 S25 h => ?_)
        refine g_aload_n C (q := 2) dL_law_650 rfl rfl ?_
        refine g_aload_n C (q := 0) dL_law_651 rfl rfl ?_
        refine g_iload_n C (q := 3) dL_law_652 rfl rfl ?_
        refine g_iconst C (v := 1) dL_law_653 (by decide) ?_
        refine g_iadd C dL_law_654 ?_
        refine g_sld C hX hbl hbA dL_law_655 h (fun i55 h => ?_)
        refine g_i2c C dL_law_656 ?_
        refine g_callVI C (ci := 6) (As := [.int (((sc i55).toUInt32 % 65536).toInt32)]) (np := 1) (st := [.int v37]) (r := y2) rfl (by decide) (fun b26 q hq => c_X6_type S25 b26 (((sc i55).toUInt32 % 65536).toInt32) q hq) gv_RL_X6_type rfl rfl dsX6_type rfl ⟨Nat.le_of_ble_eq_true rfl, Nat.le_of_ble_eq_true rfl⟩ rfl (cat_sum (Nat.le_of_ble_eq_true rfl)) ⟨Nat.le_refl _, Nat.le_refl _⟩ dL_law_657 h (fun v38 S26 h => ?_)
        refine g_icmp_eq C (tgt := 1128) dL_law_660 (by decide) h (fun h => ?_) (fun h => ?_)
        · obtain ⟨v39, ev39, h⟩ := bnd_ex h
          refine g_iinc C (i := 3) (lv' := [(3, .int v39), (0, va_rf (some b)), (1, va_rf y1), (2, va_rf y2)]) (q := 3) v39 dL_law_1128 rfl ev39 hn3 (by simp [va_rf_cat, catI, catJ, catD]) ?_
          refine g_goto C (tgt := 18) dL_law_1131 (by decide) ?_
          refine g_sub (lv' := [(0, va_rf (some b)), (1, va_rf y1), (2, va_rf y2), (3, .int v39)]) [1, 2, 3, 0] rfl ?_
          exact ih S26 y1 y2 v39 h
        · refine g_iconst C (v := 0) dL_law_663 (by decide) ?_
          exact law0 h
      have h := if_el2 h c13
      by_cases c14 : ((sc i1) &&& 31) = 13
      · have h := if_el1 h c14
        refine g_tswIn C (v := 13) (tgt := 665) dL_law_33 c14 (by decide) (by decide) rfl (by decide) ?_
        refine g_aload_n C (q := 1) dL_law_665 rfl rfl ?_
        refine g_callVI C (ci := 5) (As := []) (np := 0) (st := []) (r := y1) rfl (by decide) (fun b27 q hq => c_X5_clearText S b27  q hq) gv_RL_X5_clearText rfl rfl dsX5_clearText rfl ⟨Nat.le_of_ble_eq_true rfl, Nat.le_of_ble_eq_true rfl⟩ rfl (cat_sum (Nat.le_of_ble_eq_true rfl)) ⟨Nat.le_refl _, Nat.le_refl _⟩ dL_law_666 h (fun v40 S27 h => ?_)
        refine g_aload_n C (q := 2) dL_law_669 rfl rfl ?_
        refine g_callVI C (ci := 6) (As := []) (np := 0) (st := [.int v40]) (r := y2) rfl (by decide) (fun b28 q hq => c_X6_clearText S27 b28  q hq) gv_RL_X6_clearText rfl rfl dsX6_clearText rfl ⟨Nat.le_of_ble_eq_true rfl, Nat.le_of_ble_eq_true rfl⟩ rfl (cat_sum (Nat.le_of_ble_eq_true rfl)) ⟨Nat.le_refl _, Nat.le_refl _⟩ dL_law_670 h (fun v41 S28 h => ?_)
        refine g_icmp_eq C (tgt := 1128) dL_law_673 (by decide) h (fun h => ?_) (fun h => ?_)
        · obtain ⟨v42, ev42, h⟩ := bnd_ex h
          refine g_iinc C (i := 3) (lv' := [(3, .int v42), (0, va_rf (some b)), (1, va_rf y1), (2, va_rf y2)]) (q := 3) v42 dL_law_1128 rfl ev42 hn3 (by simp [va_rf_cat, catI, catJ, catD]) ?_
          refine g_goto C (tgt := 18) dL_law_1131 (by decide) ?_
          refine g_sub (lv' := [(0, va_rf (some b)), (1, va_rf y1), (2, va_rf y2), (3, .int v42)]) [1, 2, 3, 0] rfl ?_
          exact ih S28 y1 y2 v42 h
        · refine g_iconst C (v := 0) dL_law_676 (by decide) ?_
          exact law0 h
      have h := if_el2 h c14
      by_cases c15 : ((sc i1) &&& 31) = 14
      · have h := if_el1 h c15
        refine g_tswIn C (v := 14) (tgt := 678) dL_law_33 c15 (by decide) (by decide) rfl (by decide) ?_
        refine g_aload_n C (q := 1) dL_law_678 rfl rfl ?_
        refine g_callVE C E (ci := 5) (As := fun adK adV => []) (np := 0) (st := []) (r := y1) rfl (by decide) (fun b29 q hq => c_X5_perform S b29  q hq) gv_RL_X5_perform rfl rfl dsX5_perform rfl ⟨Nat.le_of_ble_eq_true rfl, Nat.le_of_ble_eq_true rfl⟩ rfl (cat_sum (Nat.le_of_ble_eq_true rfl)) ⟨Nat.le_refl _, Nat.le_refl _⟩ dL_law_679 h (fun v43 S29 h => ?_)
        refine g_aload_n C (q := 2) dL_law_682 rfl rfl ?_
        refine g_callVI C (ci := 6) (As := []) (np := 0) (st := [.int v43]) (r := y2) rfl (by decide) (fun b30 q hq => c_X6_perform S29 b30  q hq) gv_RL_X6_perform rfl rfl dsX6_perform rfl ⟨Nat.le_of_ble_eq_true rfl, Nat.le_of_ble_eq_true rfl⟩ rfl (cat_sum (Nat.le_of_ble_eq_true rfl)) ⟨Nat.le_refl _, Nat.le_refl _⟩ dL_law_683 h (fun v44 S30 h => ?_)
        refine g_icmp_eq C (tgt := 1128) dL_law_686 (by decide) h (fun h => ?_) (fun h => ?_)
        · obtain ⟨v45, ev45, h⟩ := bnd_ex h
          refine g_iinc C (i := 3) (lv' := [(3, .int v45), (0, va_rf (some b)), (1, va_rf y1), (2, va_rf y2)]) (q := 3) v45 dL_law_1128 rfl ev45 hn3 (by simp [va_rf_cat, catI, catJ, catD]) ?_
          refine g_goto C (tgt := 18) dL_law_1131 (by decide) ?_
          refine g_sub (lv' := [(0, va_rf (some b)), (1, va_rf y1), (2, va_rf y2), (3, .int v45)]) [1, 2, 3, 0] rfl ?_
          exact ih S30 y1 y2 v45 h
        · refine g_iconst C (v := 0) dL_law_689 (by decide) ?_
          exact law0 h
      have h := if_el2 h c15
      by_cases c16 : ((sc i1) &&& 31) = 15
      · have h := if_el1 h c16
        refine g_tswIn C (v := 15) (tgt := 691) dL_law_33 c16 (by decide) (by decide) rfl (by decide) ?_
        refine g_aload_n C (q := 1) dL_law_691 rfl rfl ?_
        refine g_callVI C (ci := 5) (As := []) (np := 0) (st := []) (r := y1) rfl (by decide) (fun b31 q hq => c_X5_undo S b31  q hq) gv_RL_X5_undo rfl rfl dsX5_undo rfl ⟨Nat.le_of_ble_eq_true rfl, Nat.le_of_ble_eq_true rfl⟩ rfl (cat_sum (Nat.le_of_ble_eq_true rfl)) ⟨Nat.le_refl _, Nat.le_refl _⟩ dL_law_692 h (fun v46 S31 h => ?_)
        refine g_aload_n C (q := 2) dL_law_695 rfl rfl ?_
        refine g_callVI C (ci := 6) (As := []) (np := 0) (st := [.int v46]) (r := y2) rfl (by decide) (fun b32 q hq => c_X6_undo S31 b32  q hq) gv_RL_X6_undo rfl rfl dsX6_undo rfl ⟨Nat.le_of_ble_eq_true rfl, Nat.le_of_ble_eq_true rfl⟩ rfl (cat_sum (Nat.le_of_ble_eq_true rfl)) ⟨Nat.le_refl _, Nat.le_refl _⟩ dL_law_696 h (fun v47 S32 h => ?_)
        refine g_icmp_eq C (tgt := 1128) dL_law_699 (by decide) h (fun h => ?_) (fun h => ?_)
        · obtain ⟨v48, ev48, h⟩ := bnd_ex h
          refine g_iinc C (i := 3) (lv' := [(3, .int v48), (0, va_rf (some b)), (1, va_rf y1), (2, va_rf y2)]) (q := 3) v48 dL_law_1128 rfl ev48 hn3 (by simp [va_rf_cat, catI, catJ, catD]) ?_
          refine g_goto C (tgt := 18) dL_law_1131 (by decide) ?_
          refine g_sub (lv' := [(0, va_rf (some b)), (1, va_rf y1), (2, va_rf y2), (3, .int v48)]) [1, 2, 3, 0] rfl ?_
          exact ih S32 y1 y2 v48 h
        · refine g_iconst C (v := 0) dL_law_702 (by decide) ?_
          exact law0 h
      have h := if_el2 h c16
      by_cases c17 : ((sc i1) &&& 31) = 16
      · have h := if_el1 h c17
        refine g_tswIn C (v := 16) (tgt := 704) dL_law_33 c17 (by decide) (by decide) rfl (by decide) ?_
        refine g_aload_n C (q := 1) dL_law_704 rfl rfl ?_
        refine g_callVI C (ci := 5) (As := []) (np := 0) (st := []) (r := y1) rfl (by decide) (fun b33 q hq => c_X5_keep S b33  q hq) gv_RL_X5_keep rfl rfl dsX5_keep rfl ⟨Nat.le_of_ble_eq_true rfl, Nat.le_of_ble_eq_true rfl⟩ rfl (cat_sum (Nat.le_of_ble_eq_true rfl)) ⟨Nat.le_refl _, Nat.le_refl _⟩ dL_law_705 h (fun v49 S33 h => ?_)
        refine g_aload_n C (q := 2) dL_law_708 rfl rfl ?_
        refine g_callVI C (ci := 6) (As := []) (np := 0) (st := [.int v49]) (r := y2) rfl (by decide) (fun b34 q hq => c_X6_keep S33 b34  q hq) gv_RL_X6_keep rfl rfl dsX6_keep rfl ⟨Nat.le_of_ble_eq_true rfl, Nat.le_of_ble_eq_true rfl⟩ rfl (cat_sum (Nat.le_of_ble_eq_true rfl)) ⟨Nat.le_refl _, Nat.le_refl _⟩ dL_law_709 h (fun v50 S34 h => ?_)
        refine g_icmp_eq C (tgt := 1128) dL_law_712 (by decide) h (fun h => ?_) (fun h => ?_)
        · obtain ⟨v51, ev51, h⟩ := bnd_ex h
          refine g_iinc C (i := 3) (lv' := [(3, .int v51), (0, va_rf (some b)), (1, va_rf y1), (2, va_rf y2)]) (q := 3) v51 dL_law_1128 rfl ev51 hn3 (by simp [va_rf_cat, catI, catJ, catD]) ?_
          refine g_goto C (tgt := 18) dL_law_1131 (by decide) ?_
          refine g_sub (lv' := [(0, va_rf (some b)), (1, va_rf y1), (2, va_rf y2), (3, .int v51)]) [1, 2, 3, 0] rfl ?_
          exact ih S34 y1 y2 v51 h
        · refine g_iconst C (v := 0) dL_law_715 (by decide) ?_
          exact law0 h
      have h := if_el2 h c17
      by_cases c18 : ((sc i1) &&& 31) = 17
      · have h := if_el1 h c18
        refine g_tswIn C (v := 17) (tgt := 717) dL_law_33 c18 (by decide) (by decide) rfl (by decide) ?_
        refine g_aload_n C (q := 1) dL_law_717 rfl rfl ?_
        refine g_callVI C (ci := 5) (As := []) (np := 0) (st := []) (r := y1) rfl (by decide) (fun b35 q hq => c_X5_restore S b35  q hq) gv_RL_X5_restore rfl rfl dsX5_restore rfl ⟨Nat.le_of_ble_eq_true rfl, Nat.le_of_ble_eq_true rfl⟩ rfl (cat_sum (Nat.le_of_ble_eq_true rfl)) ⟨Nat.le_refl _, Nat.le_refl _⟩ dL_law_718 h (fun v52 S35 h => ?_)
        refine g_aload_n C (q := 2) dL_law_721 rfl rfl ?_
        refine g_callVI C (ci := 6) (As := []) (np := 0) (st := [.int v52]) (r := y2) rfl (by decide) (fun b36 q hq => c_X6_restore S35 b36  q hq) gv_RL_X6_restore rfl rfl dsX6_restore rfl ⟨Nat.le_of_ble_eq_true rfl, Nat.le_of_ble_eq_true rfl⟩ rfl (cat_sum (Nat.le_of_ble_eq_true rfl)) ⟨Nat.le_refl _, Nat.le_refl _⟩ dL_law_722 h (fun v53 S36 h => ?_)
        refine g_icmp_eq C (tgt := 1128) dL_law_725 (by decide) h (fun h => ?_) (fun h => ?_)
        · obtain ⟨v54, ev54, h⟩ := bnd_ex h
          refine g_iinc C (i := 3) (lv' := [(3, .int v54), (0, va_rf (some b)), (1, va_rf y1), (2, va_rf y2)]) (q := 3) v54 dL_law_1128 rfl ev54 hn3 (by simp [va_rf_cat, catI, catJ, catD]) ?_
          refine g_goto C (tgt := 18) dL_law_1131 (by decide) ?_
          refine g_sub (lv' := [(0, va_rf (some b)), (1, va_rf y1), (2, va_rf y2), (3, .int v54)]) [1, 2, 3, 0] rfl ?_
          exact ih S36 y1 y2 v54 h
        · refine g_iconst C (v := 0) dL_law_728 (by decide) ?_
          exact law0 h
      have h := if_el2 h c18
      by_cases c19 : ((sc i1) &&& 31) = 18
      · have h := if_el1 h c19
        refine g_tswIn C (v := 18) (tgt := 730) dL_law_33 c19 (by decide) (by decide) rfl (by decide) ?_
        refine g_aload_n C (q := 1) dL_law_730 rfl rfl ?_
        refine g_aload_n C (q := 0) dL_law_731 rfl rfl ?_
        refine g_iload_n C (q := 3) dL_law_732 rfl rfl ?_
        refine g_iconst C (v := 1) dL_law_733 (by decide) ?_
        refine g_iadd C dL_law_734 ?_
        refine g_sld C hX hbl hbA dL_law_735 h (fun i56 h => ?_)
        refine g_aload_n C (q := 0) dL_law_736 rfl rfl ?_
        refine g_iload_n C (q := 3) dL_law_737 rfl rfl ?_
        refine g_iconst C (v := 2) dL_law_738 (by decide) ?_
        refine g_iadd C dL_law_739 ?_
        refine g_sld C hX hbl hbA dL_law_740 h (fun i57 h => ?_)
        refine g_callVI C (ci := 5) (As := [.int (sc i56), .int (sc i57)]) (np := 2) (st := []) (r := y1) rfl (by decide) (fun b37 q hq => c_X5_guide S b37 (sc i56) (sc i57) q hq) gv_RL_X5_guide rfl rfl dsX5_guide rfl ⟨Nat.le_of_ble_eq_true rfl, Nat.le_of_ble_eq_true rfl⟩ rfl (cat_sum (Nat.le_of_ble_eq_true rfl)) ⟨Nat.le_refl _, Nat.le_refl _⟩ dL_law_741 h (fun v55 S37 h => ?_)
        refine g_aload_n C (q := 2) dL_law_744 rfl rfl ?_
        refine g_aload_n C (q := 0) dL_law_745 rfl rfl ?_
        refine g_iload_n C (q := 3) dL_law_746 rfl rfl ?_
        refine g_iconst C (v := 1) dL_law_747 (by decide) ?_
        refine g_iadd C dL_law_748 ?_
        refine g_sld C hX hbl hbA dL_law_749 h (fun i58 h => ?_)
        refine g_aload_n C (q := 0) dL_law_750 rfl rfl ?_
        refine g_iload_n C (q := 3) dL_law_751 rfl rfl ?_
        refine g_iconst C (v := 2) dL_law_752 (by decide) ?_
        refine g_iadd C dL_law_753 ?_
        refine g_sld C hX hbl hbA dL_law_754 h (fun i59 h => ?_)
        refine g_callVI C (ci := 6) (As := [.int (sc i58), .int (sc i59)]) (np := 2) (st := [.int v55]) (r := y2) rfl (by decide) (fun b38 q hq => c_X6_guide S37 b38 (sc i58) (sc i59) q hq) gv_RL_X6_guide rfl rfl dsX6_guide rfl ⟨Nat.le_of_ble_eq_true rfl, Nat.le_of_ble_eq_true rfl⟩ rfl (cat_sum (Nat.le_of_ble_eq_true rfl)) ⟨Nat.le_refl _, Nat.le_refl _⟩ dL_law_755 h (fun v56 S38 h => ?_)
        refine g_icmp_eq C (tgt := 1128) dL_law_758 (by decide) h (fun h => ?_) (fun h => ?_)
        · obtain ⟨v57, ev57, h⟩ := bnd_ex h
          refine g_iinc C (i := 3) (lv' := [(3, .int v57), (0, va_rf (some b)), (1, va_rf y1), (2, va_rf y2)]) (q := 3) v57 dL_law_1128 rfl ev57 hn3 (by simp [va_rf_cat, catI, catJ, catD]) ?_
          refine g_goto C (tgt := 18) dL_law_1131 (by decide) ?_
          refine g_sub (lv' := [(0, va_rf (some b)), (1, va_rf y1), (2, va_rf y2), (3, .int v57)]) [1, 2, 3, 0] rfl ?_
          exact ih S38 y1 y2 v57 h
        · refine g_iconst C (v := 0) dL_law_761 (by decide) ?_
          exact law0 h
      have h := if_el2 h c19
      by_cases c20 : ((sc i1) &&& 31) = 19
      · have h := if_el1 h c20
        refine g_tswIn C (v := 19) (tgt := 763) dL_law_33 c20 (by decide) (by decide) rfl (by decide) ?_
        refine g_aload_n C (q := 1) dL_law_763 rfl rfl ?_
        refine g_aload_n C (q := 0) dL_law_764 rfl rfl ?_
        refine g_iload_n C (q := 3) dL_law_765 rfl rfl ?_
        refine g_iconst C (v := 1) dL_law_766 (by decide) ?_
        refine g_iadd C dL_law_767 ?_
        refine g_sld C hX hbl hbA dL_law_768 h (fun i60 h => ?_)
        refine g_aload_n C (q := 0) dL_law_769 rfl rfl ?_
        refine g_iload_n C (q := 3) dL_law_770 rfl rfl ?_
        refine g_iconst C (v := 2) dL_law_771 (by decide) ?_
        refine g_iadd C dL_law_772 ?_
        refine g_sld C hX hbl hbA dL_law_773 h (fun i61 h => ?_)
        refine g_callVI C (ci := 5) (As := [.int (sc i60), .int (sc i61)]) (np := 2) (st := []) (r := y1) rfl (by decide) (fun b39 q hq => c_X5_tour S b39 (sc i60) (sc i61) q hq) gv_RL_X5_tour rfl rfl dsX5_tour rfl ⟨Nat.le_of_ble_eq_true rfl, Nat.le_of_ble_eq_true rfl⟩ rfl (cat_sum (Nat.le_of_ble_eq_true rfl)) ⟨Nat.le_refl _, Nat.le_refl _⟩ dL_law_774 h (fun v58 S39 h => ?_)
        refine g_aload_n C (q := 2) dL_law_777 rfl rfl ?_
        refine g_aload_n C (q := 0) dL_law_778 rfl rfl ?_
        refine g_iload_n C (q := 3) dL_law_779 rfl rfl ?_
        refine g_iconst C (v := 1) dL_law_780 (by decide) ?_
        refine g_iadd C dL_law_781 ?_
        refine g_sld C hX hbl hbA dL_law_782 h (fun i62 h => ?_)
        refine g_aload_n C (q := 0) dL_law_783 rfl rfl ?_
        refine g_iload_n C (q := 3) dL_law_784 rfl rfl ?_
        refine g_iconst C (v := 2) dL_law_785 (by decide) ?_
        refine g_iadd C dL_law_786 ?_
        refine g_sld C hX hbl hbA dL_law_787 h (fun i63 h => ?_)
        refine g_callVI C (ci := 6) (As := [.int (sc i62), .int (sc i63)]) (np := 2) (st := [.int v58]) (r := y2) rfl (by decide) (fun b40 q hq => c_X6_tour S39 b40 (sc i62) (sc i63) q hq) gv_RL_X6_tour rfl rfl dsX6_tour rfl ⟨Nat.le_of_ble_eq_true rfl, Nat.le_of_ble_eq_true rfl⟩ rfl (cat_sum (Nat.le_of_ble_eq_true rfl)) ⟨Nat.le_refl _, Nat.le_refl _⟩ dL_law_788 h (fun v59 S40 h => ?_)
        refine g_icmp_eq C (tgt := 1128) dL_law_791 (by decide) h (fun h => ?_) (fun h => ?_)
        · obtain ⟨v60, ev60, h⟩ := bnd_ex h
          refine g_iinc C (i := 3) (lv' := [(3, .int v60), (0, va_rf (some b)), (1, va_rf y1), (2, va_rf y2)]) (q := 3) v60 dL_law_1128 rfl ev60 hn3 (by simp [va_rf_cat, catI, catJ, catD]) ?_
          refine g_goto C (tgt := 18) dL_law_1131 (by decide) ?_
          refine g_sub (lv' := [(0, va_rf (some b)), (1, va_rf y1), (2, va_rf y2), (3, .int v60)]) [1, 2, 3, 0] rfl ?_
          exact ih S40 y1 y2 v60 h
        · refine g_iconst C (v := 0) dL_law_794 (by decide) ?_
          exact law0 h
      have h := if_el2 h c20
      by_cases c21 : ((sc i1) &&& 31) = 20
      · have h := if_el1 h c21
        refine g_tswIn C (v := 20) (tgt := 796) dL_law_33 c21 (by decide) (by decide) rfl (by decide) ?_
        refine g_aload_n C (q := 1) dL_law_796 rfl rfl ?_
        refine g_aload_n C (q := 0) dL_law_797 rfl rfl ?_
        refine g_iload_n C (q := 3) dL_law_798 rfl rfl ?_
        refine g_iconst C (v := 1) dL_law_799 (by decide) ?_
        refine g_iadd C dL_law_800 ?_
        refine g_sld C hX hbl hbA dL_law_801 h (fun i64 h => ?_)
        refine g_aload_n C (q := 0) dL_law_802 rfl rfl ?_
        refine g_iload_n C (q := 3) dL_law_803 rfl rfl ?_
        refine g_iconst C (v := 2) dL_law_804 (by decide) ?_
        refine g_iadd C dL_law_805 ?_
        refine g_sld C hX hbl hbA dL_law_806 h (fun i65 h => ?_)
        refine g_aload_n C (q := 0) dL_law_807 rfl rfl ?_
        refine g_iload_n C (q := 3) dL_law_808 rfl rfl ?_
        refine g_iconst C (v := 3) dL_law_809 (by decide) ?_
        refine g_iadd C dL_law_810 ?_
        refine g_sld C hX hbl hbA dL_law_811 h (fun i66 h => ?_)
        refine g_callVI C (ci := 5) (As := [.int (sc i64), .int (sc i65), .int (sc i66)]) (np := 3) (st := []) (r := y1) rfl (by decide) (fun b41 q hq => c_X5_rope S b41 (sc i64) (sc i65) (sc i66) q hq) gv_RL_X5_rope rfl rfl dsX5_rope rfl ⟨Nat.le_of_ble_eq_true rfl, Nat.le_of_ble_eq_true rfl⟩ rfl (cat_sum (Nat.le_of_ble_eq_true rfl)) ⟨Nat.le_refl _, Nat.le_refl _⟩ dL_law_812 h (fun v61 S41 h => ?_)
        refine g_aload_n C (q := 2) dL_law_815 rfl rfl ?_
        refine g_aload_n C (q := 0) dL_law_816 rfl rfl ?_
        refine g_iload_n C (q := 3) dL_law_817 rfl rfl ?_
        refine g_iconst C (v := 1) dL_law_818 (by decide) ?_
        refine g_iadd C dL_law_819 ?_
        refine g_sld C hX hbl hbA dL_law_820 h (fun i67 h => ?_)
        refine g_aload_n C (q := 0) dL_law_821 rfl rfl ?_
        refine g_iload_n C (q := 3) dL_law_822 rfl rfl ?_
        refine g_iconst C (v := 2) dL_law_823 (by decide) ?_
        refine g_iadd C dL_law_824 ?_
        refine g_sld C hX hbl hbA dL_law_825 h (fun i68 h => ?_)
        refine g_aload_n C (q := 0) dL_law_826 rfl rfl ?_
        refine g_iload_n C (q := 3) dL_law_827 rfl rfl ?_
        refine g_iconst C (v := 3) dL_law_828 (by decide) ?_
        refine g_iadd C dL_law_829 ?_
        refine g_sld C hX hbl hbA dL_law_830 h (fun i69 h => ?_)
        refine g_callVI C (ci := 6) (As := [.int (sc i67), .int (sc i68), .int (sc i69)]) (np := 3) (st := [.int v61]) (r := y2) rfl (by decide) (fun b42 q hq => c_X6_rope S41 b42 (sc i67) (sc i68) (sc i69) q hq) gv_RL_X6_rope rfl rfl dsX6_rope rfl ⟨Nat.le_of_ble_eq_true rfl, Nat.le_of_ble_eq_true rfl⟩ rfl (cat_sum (Nat.le_of_ble_eq_true rfl)) ⟨Nat.le_refl _, Nat.le_refl _⟩ dL_law_831 h (fun v62 S42 h => ?_)
        refine g_icmp_eq C (tgt := 1128) dL_law_834 (by decide) h (fun h => ?_) (fun h => ?_)
        · obtain ⟨v63, ev63, h⟩ := bnd_ex h
          refine g_iinc C (i := 3) (lv' := [(3, .int v63), (0, va_rf (some b)), (1, va_rf y1), (2, va_rf y2)]) (q := 3) v63 dL_law_1128 rfl ev63 hn3 (by simp [va_rf_cat, catI, catJ, catD]) ?_
          refine g_goto C (tgt := 18) dL_law_1131 (by decide) ?_
          refine g_sub (lv' := [(0, va_rf (some b)), (1, va_rf y1), (2, va_rf y2), (3, .int v63)]) [1, 2, 3, 0] rfl ?_
          exact ih S42 y1 y2 v63 h
        · refine g_iconst C (v := 0) dL_law_837 (by decide) ?_
          exact law0 h
      have h := if_el2 h c21
      by_cases c22 : ((sc i1) &&& 31) = 21
      · have h := if_el1 h c22
        refine g_tswIn C (v := 21) (tgt := 839) dL_law_33 c22 (by decide) (by decide) rfl (by decide) ?_
        refine g_aload_n C (q := 1) dL_law_839 rfl rfl ?_
        refine g_aload_n C (q := 0) dL_law_840 rfl rfl ?_
        refine g_iload_n C (q := 3) dL_law_841 rfl rfl ?_
        refine g_iconst C (v := 1) dL_law_842 (by decide) ?_
        refine g_iadd C dL_law_843 ?_
        refine g_sld C hX hbl hbA dL_law_844 h (fun i70 h => ?_)
        refine g_callVD C (ci := 5) (As := [.int (sc i70)]) (np := 1) (st := []) (r := y1) rfl (by decide) (fun b43 q hq => c_X5_thickness S b43 (sc i70) q hq) gv_RL_X5_thickness rfl rfl dsX5_thickness rfl ⟨Nat.le_of_ble_eq_true rfl, Nat.le_of_ble_eq_true rfl⟩ rfl (cat_sum (Nat.le_of_ble_eq_true rfl)) ⟨Nat.le_refl _, Nat.le_refl _⟩ dL_law_845 h (fun e1 S43 h => ?_)
        refine g_dstore C (i := 4) (lv' := [(4, .double e1), (0, va_rf (some b)), (1, va_rf y1), (2, va_rf y2), (3, .int y3)]) dL_law_848 hn5 rfl ?_
        refine g_aload_n C (q := 3) dL_law_850 rfl rfl ?_
        refine g_aload_n C (q := 1) dL_law_851 rfl rfl ?_
        refine g_iload_n C (q := 4) dL_law_852 rfl rfl ?_
        refine g_iconst C (v := 1) dL_law_853 (by decide) ?_
        refine g_iadd C dL_law_854 ?_
        refine g_sld C hX hbl hbA dL_law_855 h (fun i71 h => ?_)
        refine g_callVD C (ci := 6) (As := [.int (sc i71)]) (np := 1) (st := []) (r := y2) rfl (by decide) (fun b44 q hq => c_X6_thickness S43 b44 (sc i71) q hq) gv_RL_X6_thickness rfl rfl dsX6_thickness rfl ⟨Nat.le_of_ble_eq_true rfl, Nat.le_of_ble_eq_true rfl⟩ rfl (cat_sum (Nat.le_of_ble_eq_true rfl)) ⟨Nat.le_refl _, Nat.le_refl _⟩ dL_law_856 h (fun e2 S44 h => ?_)
        refine g_dstore C (i := 6) (lv' := [(6, .double e2), (4, .double e1), (0, va_rf (some b)), (1, va_rf y1), (2, va_rf y2), (3, .int y3)]) dL_law_859 hn7 rfl ?_
        refine g_dload C (q := 1) dL_law_861 rfl ?_
        refine g_dload C (q := 0) dL_law_863 rfl ?_
        refine g_dcmp C dL_law_865 ?_
        refine g_if_eq C (tgt := 887) dL_law_866 (by decide) h (fun h => ?_) (fun h => ?_)
        · refine g_goto C (tgt := 1128) dL_law_887 (by decide) ?_
          obtain ⟨v64, ev64, h⟩ := bnd_ex h
          refine g_iinc C (i := 3) (lv' := [(3, .int v64), (6, .double e2), (4, .double e1), (0, va_rf (some b)), (1, va_rf y1), (2, va_rf y2)]) (q := 5) v64 dL_law_1128 rfl ev64 hn3 (by simp [va_rf_cat, catI, catJ, catD]) ?_
          refine g_goto C (tgt := 18) dL_law_1131 (by decide) ?_
          refine g_sub (lv' := [(0, va_rf (some b)), (1, va_rf y1), (2, va_rf y2), (3, .int v64)]) [3, 4, 5, 0] rfl ?_
          exact ih S44 y1 y2 v64 h
        · refine g_dload C (q := 1) dL_law_869 rfl ?_
          refine g_dload C (q := 1) dL_law_871 rfl ?_
          refine g_dcmp C dL_law_873 ?_
          refine g_if_eq C (tgt := 885) dL_law_874 (by decide) h (fun h => ?_) (fun h => ?_)
          · refine g_iconst C (v := 0) dL_law_885 (by decide) ?_
            exact law0 h
          · refine g_dload C (q := 0) dL_law_877 rfl ?_
            refine g_dload C (q := 0) dL_law_879 rfl ?_
            refine g_dcmp C dL_law_881 ?_
            refine g_if_ne C (tgt := 887) dL_law_882 (by decide) h (fun h => ?_) (fun h => ?_)
            · refine g_iconst C (v := 0) dL_law_885 (by decide) ?_
              exact law0 h
            · refine g_goto C (tgt := 1128) dL_law_887 (by decide) ?_
              obtain ⟨v65, ev65, h⟩ := bnd_ex h
              refine g_iinc C (i := 3) (lv' := [(3, .int v65), (6, .double e2), (4, .double e1), (0, va_rf (some b)), (1, va_rf y1), (2, va_rf y2)]) (q := 5) v65 dL_law_1128 rfl ev65 hn3 (by simp [va_rf_cat, catI, catJ, catD]) ?_
              refine g_goto C (tgt := 18) dL_law_1131 (by decide) ?_
              refine g_sub (lv' := [(0, va_rf (some b)), (1, va_rf y1), (2, va_rf y2), (3, .int v65)]) [3, 4, 5, 0] rfl ?_
              exact ih S44 y1 y2 v65 h
      have h := if_el2 h c22
      by_cases c23 : ((sc i1) &&& 31) = 22
      · have h := if_el1 h c23
        refine g_tswIn C (v := 22) (tgt := 890) dL_law_33 c23 (by decide) (by decide) rfl (by decide) ?_
        refine g_aload_n C (q := 1) dL_law_890 rfl rfl ?_
        refine g_aload_n C (q := 0) dL_law_891 rfl rfl ?_
        refine g_iload_n C (q := 3) dL_law_892 rfl rfl ?_
        refine g_iconst C (v := 1) dL_law_893 (by decide) ?_
        refine g_iadd C dL_law_894 ?_
        refine g_sld C hX hbl hbA dL_law_895 h (fun i72 h => ?_)
        refine g_aload_n C (q := 0) dL_law_896 rfl rfl ?_
        refine g_iload_n C (q := 3) dL_law_897 rfl rfl ?_
        refine g_iconst C (v := 2) dL_law_898 (by decide) ?_
        refine g_iadd C dL_law_899 ?_
        refine g_sld C hX hbl hbA dL_law_900 h (fun i73 h => ?_)
        refine g_callVD C (ci := 5) (As := [.int (sc i72), .int (sc i73)]) (np := 2) (st := []) (r := y1) rfl (by decide) (fun b45 q hq => c_X5_foretold S b45 (sc i72) (sc i73) q hq) gv_RL_X5_foretold rfl rfl dsX5_foretold rfl ⟨Nat.le_of_ble_eq_true rfl, Nat.le_of_ble_eq_true rfl⟩ rfl (cat_sum (Nat.le_of_ble_eq_true rfl)) ⟨Nat.le_refl _, Nat.le_refl _⟩ dL_law_901 h (fun e3 S45 h => ?_)
        refine g_dstore C (i := 4) (lv' := [(4, .double e3), (0, va_rf (some b)), (1, va_rf y1), (2, va_rf y2), (3, .int y3)]) dL_law_904 hn5 rfl ?_
        refine g_aload_n C (q := 3) dL_law_906 rfl rfl ?_
        refine g_aload_n C (q := 1) dL_law_907 rfl rfl ?_
        refine g_iload_n C (q := 4) dL_law_908 rfl rfl ?_
        refine g_iconst C (v := 1) dL_law_909 (by decide) ?_
        refine g_iadd C dL_law_910 ?_
        refine g_sld C hX hbl hbA dL_law_911 h (fun i74 h => ?_)
        refine g_aload_n C (q := 1) dL_law_912 rfl rfl ?_
        refine g_iload_n C (q := 4) dL_law_913 rfl rfl ?_
        refine g_iconst C (v := 2) dL_law_914 (by decide) ?_
        refine g_iadd C dL_law_915 ?_
        refine g_sld C hX hbl hbA dL_law_916 h (fun i75 h => ?_)
        refine g_callVD C (ci := 6) (As := [.int (sc i74), .int (sc i75)]) (np := 2) (st := []) (r := y2) rfl (by decide) (fun b46 q hq => c_X6_foretold S45 b46 (sc i74) (sc i75) q hq) gv_RL_X6_foretold rfl rfl dsX6_foretold rfl ⟨Nat.le_of_ble_eq_true rfl, Nat.le_of_ble_eq_true rfl⟩ rfl (cat_sum (Nat.le_of_ble_eq_true rfl)) ⟨Nat.le_refl _, Nat.le_refl _⟩ dL_law_917 h (fun e4 S46 h => ?_)
        refine g_dstore C (i := 6) (lv' := [(6, .double e4), (4, .double e3), (0, va_rf (some b)), (1, va_rf y1), (2, va_rf y2), (3, .int y3)]) dL_law_920 hn7 rfl ?_
        refine g_dload C (q := 1) dL_law_922 rfl ?_
        refine g_dload C (q := 0) dL_law_924 rfl ?_
        refine g_dcmp C dL_law_926 ?_
        refine g_if_eq C (tgt := 948) dL_law_927 (by decide) h (fun h => ?_) (fun h => ?_)
        · refine g_goto C (tgt := 1128) dL_law_948 (by decide) ?_
          obtain ⟨v66, ev66, h⟩ := bnd_ex h
          refine g_iinc C (i := 3) (lv' := [(3, .int v66), (6, .double e4), (4, .double e3), (0, va_rf (some b)), (1, va_rf y1), (2, va_rf y2)]) (q := 5) v66 dL_law_1128 rfl ev66 hn3 (by simp [va_rf_cat, catI, catJ, catD]) ?_
          refine g_goto C (tgt := 18) dL_law_1131 (by decide) ?_
          refine g_sub (lv' := [(0, va_rf (some b)), (1, va_rf y1), (2, va_rf y2), (3, .int v66)]) [3, 4, 5, 0] rfl ?_
          exact ih S46 y1 y2 v66 h
        · refine g_dload C (q := 1) dL_law_930 rfl ?_
          refine g_dload C (q := 1) dL_law_932 rfl ?_
          refine g_dcmp C dL_law_934 ?_
          refine g_if_eq C (tgt := 946) dL_law_935 (by decide) h (fun h => ?_) (fun h => ?_)
          · refine g_iconst C (v := 0) dL_law_946 (by decide) ?_
            exact law0 h
          · refine g_dload C (q := 0) dL_law_938 rfl ?_
            refine g_dload C (q := 0) dL_law_940 rfl ?_
            refine g_dcmp C dL_law_942 ?_
            refine g_if_ne C (tgt := 948) dL_law_943 (by decide) h (fun h => ?_) (fun h => ?_)
            · refine g_iconst C (v := 0) dL_law_946 (by decide) ?_
              exact law0 h
            · refine g_goto C (tgt := 1128) dL_law_948 (by decide) ?_
              obtain ⟨v67, ev67, h⟩ := bnd_ex h
              refine g_iinc C (i := 3) (lv' := [(3, .int v67), (6, .double e4), (4, .double e3), (0, va_rf (some b)), (1, va_rf y1), (2, va_rf y2)]) (q := 5) v67 dL_law_1128 rfl ev67 hn3 (by simp [va_rf_cat, catI, catJ, catD]) ?_
              refine g_goto C (tgt := 18) dL_law_1131 (by decide) ?_
              refine g_sub (lv' := [(0, va_rf (some b)), (1, va_rf y1), (2, va_rf y2), (3, .int v67)]) [3, 4, 5, 0] rfl ?_
              exact ih S46 y1 y2 v67 h
      have h := if_el2 h c23
      by_cases c24 : ((sc i1) &&& 31) = 23
      · have h := if_el1 h c24
        refine g_tswIn C (v := 23) (tgt := 951) dL_law_33 c24 (by decide) (by decide) rfl (by decide) ?_
        refine g_aload_n C (q := 1) dL_law_951 rfl rfl ?_
        refine g_aload_n C (q := 0) dL_law_952 rfl rfl ?_
        refine g_iload_n C (q := 3) dL_law_953 rfl rfl ?_
        refine g_iconst C (v := 1) dL_law_954 (by decide) ?_
        refine g_iadd C dL_law_955 ?_
        refine g_sld C hX hbl hbA dL_law_956 h (fun i76 h => ?_)
        refine g_callVD C (ci := 5) (As := [.int (sc i76)]) (np := 1) (st := []) (r := y1) rfl (by decide) (fun b47 q hq => c_X5_needed S b47 (sc i76) q hq) gv_RL_X5_needed rfl rfl dsX5_needed rfl ⟨Nat.le_of_ble_eq_true rfl, Nat.le_of_ble_eq_true rfl⟩ rfl (cat_sum (Nat.le_of_ble_eq_true rfl)) ⟨Nat.le_refl _, Nat.le_refl _⟩ dL_law_957 h (fun e5 S47 h => ?_)
        refine g_dstore C (i := 4) (lv' := [(4, .double e5), (0, va_rf (some b)), (1, va_rf y1), (2, va_rf y2), (3, .int y3)]) dL_law_960 hn5 rfl ?_
        refine g_aload_n C (q := 3) dL_law_962 rfl rfl ?_
        refine g_aload_n C (q := 1) dL_law_963 rfl rfl ?_
        refine g_iload_n C (q := 4) dL_law_964 rfl rfl ?_
        refine g_iconst C (v := 1) dL_law_965 (by decide) ?_
        refine g_iadd C dL_law_966 ?_
        refine g_sld C hX hbl hbA dL_law_967 h (fun i77 h => ?_)
        refine g_callVD C (ci := 6) (As := [.int (sc i77)]) (np := 1) (st := []) (r := y2) rfl (by decide) (fun b48 q hq => c_X6_needed S47 b48 (sc i77) q hq) gv_RL_X6_needed rfl rfl dsX6_needed rfl ⟨Nat.le_of_ble_eq_true rfl, Nat.le_of_ble_eq_true rfl⟩ rfl (cat_sum (Nat.le_of_ble_eq_true rfl)) ⟨Nat.le_refl _, Nat.le_refl _⟩ dL_law_968 h (fun e6 S48 h => ?_)
        refine g_dstore C (i := 6) (lv' := [(6, .double e6), (4, .double e5), (0, va_rf (some b)), (1, va_rf y1), (2, va_rf y2), (3, .int y3)]) dL_law_971 hn7 rfl ?_
        refine g_dload C (q := 1) dL_law_973 rfl ?_
        refine g_dload C (q := 0) dL_law_975 rfl ?_
        refine g_dcmp C dL_law_977 ?_
        refine g_if_eq C (tgt := 999) dL_law_978 (by decide) h (fun h => ?_) (fun h => ?_)
        · refine g_goto C (tgt := 1128) dL_law_999 (by decide) ?_
          obtain ⟨v68, ev68, h⟩ := bnd_ex h
          refine g_iinc C (i := 3) (lv' := [(3, .int v68), (6, .double e6), (4, .double e5), (0, va_rf (some b)), (1, va_rf y1), (2, va_rf y2)]) (q := 5) v68 dL_law_1128 rfl ev68 hn3 (by simp [va_rf_cat, catI, catJ, catD]) ?_
          refine g_goto C (tgt := 18) dL_law_1131 (by decide) ?_
          refine g_sub (lv' := [(0, va_rf (some b)), (1, va_rf y1), (2, va_rf y2), (3, .int v68)]) [3, 4, 5, 0] rfl ?_
          exact ih S48 y1 y2 v68 h
        · refine g_dload C (q := 1) dL_law_981 rfl ?_
          refine g_dload C (q := 1) dL_law_983 rfl ?_
          refine g_dcmp C dL_law_985 ?_
          refine g_if_eq C (tgt := 997) dL_law_986 (by decide) h (fun h => ?_) (fun h => ?_)
          · refine g_iconst C (v := 0) dL_law_997 (by decide) ?_
            exact law0 h
          · refine g_dload C (q := 0) dL_law_989 rfl ?_
            refine g_dload C (q := 0) dL_law_991 rfl ?_
            refine g_dcmp C dL_law_993 ?_
            refine g_if_ne C (tgt := 999) dL_law_994 (by decide) h (fun h => ?_) (fun h => ?_)
            · refine g_iconst C (v := 0) dL_law_997 (by decide) ?_
              exact law0 h
            · refine g_goto C (tgt := 1128) dL_law_999 (by decide) ?_
              obtain ⟨v69, ev69, h⟩ := bnd_ex h
              refine g_iinc C (i := 3) (lv' := [(3, .int v69), (6, .double e6), (4, .double e5), (0, va_rf (some b)), (1, va_rf y1), (2, va_rf y2)]) (q := 5) v69 dL_law_1128 rfl ev69 hn3 (by simp [va_rf_cat, catI, catJ, catD]) ?_
              refine g_goto C (tgt := 18) dL_law_1131 (by decide) ?_
              refine g_sub (lv' := [(0, va_rf (some b)), (1, va_rf y1), (2, va_rf y2), (3, .int v69)]) [3, 4, 5, 0] rfl ?_
              exact ih S48 y1 y2 v69 h
      have h := if_el2 h c24
      by_cases c25 : ((sc i1) &&& 31) = 24
      · have h := if_el1 h c25
        refine g_tswIn C (v := 24) (tgt := 1002) dL_law_33 c25 (by decide) (by decide) rfl (by decide) ?_
        refine g_aload_n C (q := 1) dL_law_1002 rfl rfl ?_
        refine g_aload_n C (q := 0) dL_law_1003 rfl rfl ?_
        refine g_iload_n C (q := 3) dL_law_1004 rfl rfl ?_
        refine g_iconst C (v := 1) dL_law_1005 (by decide) ?_
        refine g_iadd C dL_law_1006 ?_
        refine g_sld C hX hbl hbA dL_law_1007 h (fun i78 h => ?_)
        refine g_aload_n C (q := 0) dL_law_1008 rfl rfl ?_
        refine g_iload_n C (q := 3) dL_law_1009 rfl rfl ?_
        refine g_iconst C (v := 2) dL_law_1010 (by decide) ?_
        refine g_iadd C dL_law_1011 ?_
        refine g_sld C hX hbl hbA dL_law_1012 h (fun i79 h => ?_)
        refine g_callVI C (ci := 5) (As := [.int (sc i78), .int (sc i79)]) (np := 2) (st := []) (r := y1) rfl (by decide) (fun b49 q hq => c_X5_holds S b49 (sc i78) (sc i79) q hq) gv_RL_X5_holds rfl rfl dsX5_holds rfl ⟨Nat.le_of_ble_eq_true rfl, Nat.le_of_ble_eq_true rfl⟩ rfl (cat_sum (Nat.le_of_ble_eq_true rfl)) ⟨Nat.le_refl _, Nat.le_refl _⟩ dL_law_1013 h (fun v70 S49 h => ?_)
        refine g_aload_n C (q := 2) dL_law_1016 rfl rfl ?_
        refine g_aload_n C (q := 0) dL_law_1017 rfl rfl ?_
        refine g_iload_n C (q := 3) dL_law_1018 rfl rfl ?_
        refine g_iconst C (v := 1) dL_law_1019 (by decide) ?_
        refine g_iadd C dL_law_1020 ?_
        refine g_sld C hX hbl hbA dL_law_1021 h (fun i80 h => ?_)
        refine g_aload_n C (q := 0) dL_law_1022 rfl rfl ?_
        refine g_iload_n C (q := 3) dL_law_1023 rfl rfl ?_
        refine g_iconst C (v := 2) dL_law_1024 (by decide) ?_
        refine g_iadd C dL_law_1025 ?_
        refine g_sld C hX hbl hbA dL_law_1026 h (fun i81 h => ?_)
        refine g_callVI C (ci := 6) (As := [.int (sc i80), .int (sc i81)]) (np := 2) (st := [.int v70]) (r := y2) rfl (by decide) (fun b50 q hq => c_X6_holds S49 b50 (sc i80) (sc i81) q hq) gv_RL_X6_holds rfl rfl dsX6_holds rfl ⟨Nat.le_of_ble_eq_true rfl, Nat.le_of_ble_eq_true rfl⟩ rfl (cat_sum (Nat.le_of_ble_eq_true rfl)) ⟨Nat.le_refl _, Nat.le_refl _⟩ dL_law_1027 h (fun v71 S50 h => ?_)
        refine g_icmp_eq C (tgt := 1128) dL_law_1030 (by decide) h (fun h => ?_) (fun h => ?_)
        · obtain ⟨v72, ev72, h⟩ := bnd_ex h
          refine g_iinc C (i := 3) (lv' := [(3, .int v72), (0, va_rf (some b)), (1, va_rf y1), (2, va_rf y2)]) (q := 3) v72 dL_law_1128 rfl ev72 hn3 (by simp [va_rf_cat, catI, catJ, catD]) ?_
          refine g_goto C (tgt := 18) dL_law_1131 (by decide) ?_
          refine g_sub (lv' := [(0, va_rf (some b)), (1, va_rf y1), (2, va_rf y2), (3, .int v72)]) [1, 2, 3, 0] rfl ?_
          exact ih S50 y1 y2 v72 h
        · refine g_iconst C (v := 0) dL_law_1033 (by decide) ?_
          exact law0 h
      have h := if_el2 h c25
      by_cases c26 : ((sc i1) &&& 31) = 25
      · have h := if_el1 h c26
        refine g_tswIn C (v := 25) (tgt := 1035) dL_law_33 c26 (by decide) (by decide) rfl (by decide) ?_
        refine g_aload_n C (q := 1) dL_law_1035 rfl rfl ?_
        refine g_aload_n C (q := 0) dL_law_1036 rfl rfl ?_
        refine g_iload_n C (q := 3) dL_law_1037 rfl rfl ?_
        refine g_iconst C (v := 1) dL_law_1038 (by decide) ?_
        refine g_iadd C dL_law_1039 ?_
        refine g_sld C hX hbl hbA dL_law_1040 h (fun i82 h => ?_)
        refine g_callVI C (ci := 5) (As := [.int (sc i82)]) (np := 1) (st := []) (r := y1) rfl (by decide) (fun b51 q hq => c_X5_bestGuide S b51 (sc i82) q hq) gv_RL_X5_bestGuide rfl rfl dsX5_bestGuide rfl ⟨Nat.le_of_ble_eq_true rfl, Nat.le_of_ble_eq_true rfl⟩ rfl (cat_sum (Nat.le_of_ble_eq_true rfl)) ⟨Nat.le_refl _, Nat.le_refl _⟩ dL_law_1041 h (fun v73 S51 h => ?_)
        refine g_aload_n C (q := 2) dL_law_1044 rfl rfl ?_
        refine g_aload_n C (q := 0) dL_law_1045 rfl rfl ?_
        refine g_iload_n C (q := 3) dL_law_1046 rfl rfl ?_
        refine g_iconst C (v := 1) dL_law_1047 (by decide) ?_
        refine g_iadd C dL_law_1048 ?_
        refine g_sld C hX hbl hbA dL_law_1049 h (fun i83 h => ?_)
        refine g_callVI C (ci := 6) (As := [.int (sc i83)]) (np := 1) (st := [.int v73]) (r := y2) rfl (by decide) (fun b52 q hq => c_X6_bestGuide S51 b52 (sc i83) q hq) gv_RL_X6_bestGuide rfl rfl dsX6_bestGuide rfl ⟨Nat.le_of_ble_eq_true rfl, Nat.le_of_ble_eq_true rfl⟩ rfl (cat_sum (Nat.le_of_ble_eq_true rfl)) ⟨Nat.le_refl _, Nat.le_refl _⟩ dL_law_1050 h (fun v74 S52 h => ?_)
        refine g_icmp_eq C (tgt := 1128) dL_law_1053 (by decide) h (fun h => ?_) (fun h => ?_)
        · obtain ⟨v75, ev75, h⟩ := bnd_ex h
          refine g_iinc C (i := 3) (lv' := [(3, .int v75), (0, va_rf (some b)), (1, va_rf y1), (2, va_rf y2)]) (q := 3) v75 dL_law_1128 rfl ev75 hn3 (by simp [va_rf_cat, catI, catJ, catD]) ?_
          refine g_goto C (tgt := 18) dL_law_1131 (by decide) ?_
          refine g_sub (lv' := [(0, va_rf (some b)), (1, va_rf y1), (2, va_rf y2), (3, .int v75)]) [1, 2, 3, 0] rfl ?_
          exact ih S52 y1 y2 v75 h
        · refine g_iconst C (v := 0) dL_law_1056 (by decide) ?_
          exact law0 h
      have h := if_el2 h c26
      by_cases c27 : ((sc i1) &&& 31) = 26
      · have h := if_el1 h c27
        refine g_tswIn C (v := 26) (tgt := 1058) dL_law_33 c27 (by decide) (by decide) rfl (by decide) ?_
        refine g_aload_n C (q := 1) dL_law_1058 rfl rfl ?_
        refine g_aload_n C (q := 0) dL_law_1059 rfl rfl ?_
        refine g_iload_n C (q := 3) dL_law_1060 rfl rfl ?_
        refine g_iconst C (v := 1) dL_law_1061 (by decide) ?_
        refine g_iadd C dL_law_1062 ?_
        refine g_sld C hX hbl hbA dL_law_1063 h (fun i84 h => ?_)
        refine g_aload_n C (q := 0) dL_law_1064 rfl rfl ?_
        refine g_iload_n C (q := 3) dL_law_1065 rfl rfl ?_
        refine g_iconst C (v := 2) dL_law_1066 (by decide) ?_
        refine g_iadd C dL_law_1067 ?_
        refine g_sld C hX hbl hbA dL_law_1068 h (fun i85 h => ?_)
        refine g_callVI C (ci := 5) (As := [.int (sc i84), .int (sc i85)]) (np := 2) (st := []) (r := y1) rfl (by decide) (fun b53 q hq => c_X5_takes S b53 (sc i84) (sc i85) q hq) gv_RL_X5_takes rfl rfl dsX5_takes rfl ⟨Nat.le_of_ble_eq_true rfl, Nat.le_of_ble_eq_true rfl⟩ rfl (cat_sum (Nat.le_of_ble_eq_true rfl)) ⟨Nat.le_refl _, Nat.le_refl _⟩ dL_law_1069 h (fun v76 S53 h => ?_)
        refine g_aload_n C (q := 2) dL_law_1072 rfl rfl ?_
        refine g_aload_n C (q := 0) dL_law_1073 rfl rfl ?_
        refine g_iload_n C (q := 3) dL_law_1074 rfl rfl ?_
        refine g_iconst C (v := 1) dL_law_1075 (by decide) ?_
        refine g_iadd C dL_law_1076 ?_
        refine g_sld C hX hbl hbA dL_law_1077 h (fun i86 h => ?_)
        refine g_aload_n C (q := 0) dL_law_1078 rfl rfl ?_
        refine g_iload_n C (q := 3) dL_law_1079 rfl rfl ?_
        refine g_iconst C (v := 2) dL_law_1080 (by decide) ?_
        refine g_iadd C dL_law_1081 ?_
        refine g_sld C hX hbl hbA dL_law_1082 h (fun i87 h => ?_)
        refine g_callVI C (ci := 6) (As := [.int (sc i86), .int (sc i87)]) (np := 2) (st := [.int v76]) (r := y2) rfl (by decide) (fun b54 q hq => c_X6_takes S53 b54 (sc i86) (sc i87) q hq) gv_RL_X6_takes rfl rfl dsX6_takes rfl ⟨Nat.le_of_ble_eq_true rfl, Nat.le_of_ble_eq_true rfl⟩ rfl (cat_sum (Nat.le_of_ble_eq_true rfl)) ⟨Nat.le_refl _, Nat.le_refl _⟩ dL_law_1083 h (fun v77 S54 h => ?_)
        refine g_icmp_eq C (tgt := 1128) dL_law_1086 (by decide) h (fun h => ?_) (fun h => ?_)
        · obtain ⟨v78, ev78, h⟩ := bnd_ex h
          refine g_iinc C (i := 3) (lv' := [(3, .int v78), (0, va_rf (some b)), (1, va_rf y1), (2, va_rf y2)]) (q := 3) v78 dL_law_1128 rfl ev78 hn3 (by simp [va_rf_cat, catI, catJ, catD]) ?_
          refine g_goto C (tgt := 18) dL_law_1131 (by decide) ?_
          refine g_sub (lv' := [(0, va_rf (some b)), (1, va_rf y1), (2, va_rf y2), (3, .int v78)]) [1, 2, 3, 0] rfl ?_
          exact ih S54 y1 y2 v78 h
        · refine g_iconst C (v := 0) dL_law_1089 (by decide) ?_
          exact law0 h
      have h := if_el2 h c27
      by_cases c28 : ((sc i1) &&& 31) = 27
      · have h := if_el1 h c28
        refine g_tswIn C (v := 27) (tgt := 1091) dL_law_33 c28 (by decide) (by decide) rfl (by decide) ?_
        refine g_aload_n C (q := 1) dL_law_1091 rfl rfl ?_
        refine g_aload_n C (q := 0) dL_law_1092 rfl rfl ?_
        refine g_iload_n C (q := 3) dL_law_1093 rfl rfl ?_
        refine g_iconst C (v := 1) dL_law_1094 (by decide) ?_
        refine g_iadd C dL_law_1095 ?_
        refine g_sld C hX hbl hbA dL_law_1096 h (fun i88 h => ?_)
        refine g_callVI C (ci := 5) (As := [.int (sc i88)]) (np := 1) (st := []) (r := y1) rfl (by decide) (fun b55 q hq => c_X5_count S b55 (sc i88) q hq) gv_RL_X5_count rfl rfl dsX5_count rfl ⟨Nat.le_of_ble_eq_true rfl, Nat.le_of_ble_eq_true rfl⟩ rfl (cat_sum (Nat.le_of_ble_eq_true rfl)) ⟨Nat.le_refl _, Nat.le_refl _⟩ dL_law_1097 h (fun v79 S55 h => ?_)
        refine g_aload_n C (q := 2) dL_law_1100 rfl rfl ?_
        refine g_aload_n C (q := 0) dL_law_1101 rfl rfl ?_
        refine g_iload_n C (q := 3) dL_law_1102 rfl rfl ?_
        refine g_iconst C (v := 1) dL_law_1103 (by decide) ?_
        refine g_iadd C dL_law_1104 ?_
        refine g_sld C hX hbl hbA dL_law_1105 h (fun i89 h => ?_)
        refine g_callVI C (ci := 6) (As := [.int (sc i89)]) (np := 1) (st := [.int v79]) (r := y2) rfl (by decide) (fun b56 q hq => c_X6_count S55 b56 (sc i89) q hq) gv_RL_X6_count rfl rfl dsX6_count rfl ⟨Nat.le_of_ble_eq_true rfl, Nat.le_of_ble_eq_true rfl⟩ rfl (cat_sum (Nat.le_of_ble_eq_true rfl)) ⟨Nat.le_refl _, Nat.le_refl _⟩ dL_law_1106 h (fun v80 S56 h => ?_)
        refine g_icmp_eq C (tgt := 1128) dL_law_1109 (by decide) h (fun h => ?_) (fun h => ?_)
        · obtain ⟨v81, ev81, h⟩ := bnd_ex h
          refine g_iinc C (i := 3) (lv' := [(3, .int v81), (0, va_rf (some b)), (1, va_rf y1), (2, va_rf y2)]) (q := 3) v81 dL_law_1128 rfl ev81 hn3 (by simp [va_rf_cat, catI, catJ, catD]) ?_
          refine g_goto C (tgt := 18) dL_law_1131 (by decide) ?_
          refine g_sub (lv' := [(0, va_rf (some b)), (1, va_rf y1), (2, va_rf y2), (3, .int v81)]) [1, 2, 3, 0] rfl ?_
          exact ih S56 y1 y2 v81 h
        · refine g_iconst C (v := 0) dL_law_1112 (by decide) ?_
          exact law0 h
      have h := if_el2 h c28
      by_cases c29 : ((sc i1) &&& 31) = 28
      · have h := if_el1 h c29
        refine g_tswIn C (v := 28) (tgt := 1114) dL_law_33 c29 (by decide) (by decide) rfl (by decide) ?_
        refine g_aload_n C (q := 1) dL_law_1114 rfl rfl ?_
        refine g_callVJ C (ci := 5) (As := []) (np := 0) (st := []) (r := y1) rfl (by decide) (fun b57 q hq => c_X5_temperature S b57  q hq) gv_RL_X5_temperature rfl rfl dsX5_temperature rfl ⟨Nat.le_of_ble_eq_true rfl, Nat.le_of_ble_eq_true rfl⟩ rfl (cat_sum (Nat.le_of_ble_eq_true rfl)) ⟨Nat.le_refl _, Nat.le_refl _⟩ dL_law_1115 h (fun j1 S57 h => ?_)
        refine g_aload_n C (q := 2) dL_law_1118 rfl rfl ?_
        refine g_callVJ C (ci := 6) (As := []) (np := 0) (st := [.long j1]) (r := y2) rfl (by decide) (fun b58 q hq => c_X6_temperature S57 b58  q hq) gv_RL_X6_temperature rfl rfl dsX6_temperature rfl ⟨Nat.le_of_ble_eq_true rfl, Nat.le_of_ble_eq_true rfl⟩ rfl (cat_sum (Nat.le_of_ble_eq_true rfl)) ⟨Nat.le_refl _, Nat.le_refl _⟩ dL_law_1119 h (fun j2 S58 h => ?_)
        refine g_lcmp C dL_law_1122 ?_
        refine g_if_eq C (tgt := 1128) dL_law_1123 (by decide) h (fun h => ?_) (fun h => ?_)
        · obtain ⟨v82, ev82, h⟩ := bnd_ex h
          refine g_iinc C (i := 3) (lv' := [(3, .int v82), (0, va_rf (some b)), (1, va_rf y1), (2, va_rf y2)]) (q := 3) v82 dL_law_1128 rfl ev82 hn3 (by simp [va_rf_cat, catI, catJ, catD]) ?_
          refine g_goto C (tgt := 18) dL_law_1131 (by decide) ?_
          refine g_sub (lv' := [(0, va_rf (some b)), (1, va_rf y1), (2, va_rf y2), (3, .int v82)]) [1, 2, 3, 0] rfl ?_
          exact ih S58 y1 y2 v82 h
        · refine g_iconst C (v := 0) dL_law_1126 (by decide) ?_
          exact law0 h
      have h := if_el2 h c29
      refine g_tswOut C (tgt := 1128) dL_law_33 (sw_out (x := ((sc i1) &&& 31)) 0 29 (by decide) (h := (lt_s (lt_s (lt_s (lt_s (lt_s (lt_s (lt_s (lt_s (lt_s (lt_s (lt_s (lt_s (lt_s (lt_s (lt_s (lt_s (lt_s (lt_s (lt_s (lt_s (lt_s (lt_s (lt_s (lt_s (lt_s (lt_s (lt_s (lt_s (lt_s lt_0 c1) c2) c3) c4) c5) c6) c7) c8) c9) c10) c11) c12) c13) c14) c15) c16) c17) c18) c19) c20) c21) c22) c23) c24) c25) c26) c27) c28) c29))) (by decide) ?_
      obtain ⟨v83, ev83, h⟩ := bnd_ex h
      refine g_iinc C (i := 3) (lv' := [(3, .int v83), (0, va_rf (some b)), (1, va_rf y1), (2, va_rf y2)]) (q := 3) v83 dL_law_1128 rfl ev83 hn3 (by simp [va_rf_cat, catI, catJ, catD]) ?_
      refine g_goto C (tgt := 18) dL_law_1131 (by decide) ?_
      refine g_sub (lv' := [(0, va_rf (some b)), (1, va_rf y1), (2, va_rf y2), (3, .int v83)]) [1, 2, 3, 0] rfl ?_
      exact ih S y1 y2 v83 h
