section
-- ===== PART A: goes FIRST, ahead of the names: the tables' words, and 'selects' of the private methods out of them =====
/-- a private method of a class that the tables say can be made, by its rows of tables_1 -/
def lw_okq (q : MethodName × Nat) : Prop := (q.1.cls ≠ "java/lang/invoke/MethodHandle" ∧ q.1.cls ≠ "java/lang/invoke/VarHandle") ∧ Cond.instantiable q.1.cls q.2 ∈ tables_1 ∧ Cond.privateMethod q.1 ∈ tables_1 ∧ Cond.instanceMethod q.1 ∈ tables_1
theorem lw_p0 : lw_okq (⟨"GlacierGuidesModel", "record", "()V"⟩, 13) := ⟨⟨by decide +kernel, by decide +kernel⟩, List.mem_of_getElem? (i := 649) (by decide +kernel), List.mem_of_getElem? (i := 705) (by decide +kernel), List.mem_of_getElem? (i := 706) (by decide +kernel)⟩
theorem lw_p1 : lw_okq (⟨"GlacierGuidesModel", "noGuide", "(I)Z"⟩, 13) := ⟨⟨by decide +kernel, by decide +kernel⟩, List.mem_of_getElem? (i := 649) (by decide +kernel), List.mem_of_getElem? (i := 713) (by decide +kernel), List.mem_of_getElem? (i := 714) (by decide +kernel)⟩
theorem lw_p2 : lw_okq (⟨"GlacierGuidesModel", "ofGuide", "(II)I"⟩, 13) := ⟨⟨by decide +kernel, by decide +kernel⟩, List.mem_of_getElem? (i := 649) (by decide +kernel), List.mem_of_getElem? (i := 717) (by decide +kernel), List.mem_of_getElem? (i := 718) (by decide +kernel)⟩
theorem lw_p3 : lw_okq (⟨"GlacierGuidesModel", "to", "(III)V"⟩, 13) := ⟨⟨by decide +kernel, by decide +kernel⟩, List.mem_of_getElem? (i := 649) (by decide +kernel), List.mem_of_getElem? (i := 745) (by decide +kernel), List.mem_of_getElem? (i := 746) (by decide +kernel)⟩
theorem lw_p4 : lw_okq (⟨"GlacierGuidesModel", "noTour", "(I)Z"⟩, 13) := ⟨⟨by decide +kernel, by decide +kernel⟩, List.mem_of_getElem? (i := 649) (by decide +kernel), List.mem_of_getElem? (i := 753) (by decide +kernel), List.mem_of_getElem? (i := 754) (by decide +kernel)⟩
theorem lw_p5 : lw_okq (⟨"GlacierGuidesModel", "isOpen", "(I)Z"⟩, 13) := ⟨⟨by decide +kernel, by decide +kernel⟩, List.mem_of_getElem? (i := 649) (by decide +kernel), List.mem_of_getElem? (i := 757) (by decide +kernel), List.mem_of_getElem? (i := 758) (by decide +kernel)⟩
theorem lw_p6 : lw_okq (⟨"GlacierGuidesModel", "of", "(II)I"⟩, 13) := ⟨⟨by decide +kernel, by decide +kernel⟩, List.mem_of_getElem? (i := 649) (by decide +kernel), List.mem_of_getElem? (i := 761) (by decide +kernel), List.mem_of_getElem? (i := 762) (by decide +kernel)⟩
theorem lw_p7 : lw_okq (⟨"GlacierGuidesModel", "refunds", "(II)V"⟩, 13) := ⟨⟨by decide +kernel, by decide +kernel⟩, List.mem_of_getElem? (i := 649) (by decide +kernel), List.mem_of_getElem? (i := 771) (by decide +kernel), List.mem_of_getElem? (i := 772) (by decide +kernel)⟩
theorem lw_p8 : lw_okq (⟨"GlacierGuidesModel", "mayLead", "(II)Z"⟩, 13) := ⟨⟨by decide +kernel, by decide +kernel⟩, List.mem_of_getElem? (i := 649) (by decide +kernel), List.mem_of_getElem? (i := 779) (by decide +kernel), List.mem_of_getElem? (i := 780) (by decide +kernel)⟩
theorem lw_p9 : lw_okq (⟨"GlacierGuidesModel", "isBusy", "(II)Z"⟩, 13) := ⟨⟨by decide +kernel, by decide +kernel⟩, List.mem_of_getElem? (i := 649) (by decide +kernel), List.mem_of_getElem? (i := 783) (by decide +kernel), List.mem_of_getElem? (i := 784) (by decide +kernel)⟩
theorem lw_p10 : lw_okq (⟨"GlacierGuidesModel", "leads", "(II)Z"⟩, 13) := ⟨⟨by decide +kernel, by decide +kernel⟩, List.mem_of_getElem? (i := 649) (by decide +kernel), List.mem_of_getElem? (i := 787) (by decide +kernel), List.mem_of_getElem? (i := 788) (by decide +kernel)⟩
theorem lw_p11 : lw_okq (⟨"GlacierGuidesModel", "guideOn", "(II)I"⟩, 13) := ⟨⟨by decide +kernel, by decide +kernel⟩, List.mem_of_getElem? (i := 649) (by decide +kernel), List.mem_of_getElem? (i := 791) (by decide +kernel), List.mem_of_getElem? (i := 792) (by decide +kernel)⟩
theorem lw_p12 : lw_okq (⟨"GlacierGuidesModel", "ratio", "(II)I"⟩, 13) := ⟨⟨by decide +kernel, by decide +kernel⟩, List.mem_of_getElem? (i := 649) (by decide +kernel), List.mem_of_getElem? (i := 795) (by decide +kernel), List.mem_of_getElem? (i := 796) (by decide +kernel)⟩
theorem lw_p13 : lw_okq (⟨"GlacierGuidesModel", "baseOf", "(I)I"⟩, 13) := ⟨⟨by decide +kernel, by decide +kernel⟩, List.mem_of_getElem? (i := 649) (by decide +kernel), List.mem_of_getElem? (i := 799) (by decide +kernel), List.mem_of_getElem? (i := 800) (by decide +kernel)⟩
theorem lw_p14 : lw_okq (⟨"GlacierGuidesModel", "leftOver", "(I)I"⟩, 13) := ⟨⟨by decide +kernel, by decide +kernel⟩, List.mem_of_getElem? (i := 649) (by decide +kernel), List.mem_of_getElem? (i := 809) (by decide +kernel), List.mem_of_getElem? (i := 810) (by decide +kernel)⟩
theorem lw_p15 : lw_okq (⟨"GlacierGuidesModel", "onRope", "(II)I"⟩, 13) := ⟨⟨by decide +kernel, by decide +kernel⟩, List.mem_of_getElem? (i := 649) (by decide +kernel), List.mem_of_getElem? (i := 813) (by decide +kernel), List.mem_of_getElem? (i := 814) (by decide +kernel)⟩
def lw_privs_1 : List (MethodName × Nat) := [(⟨"GlacierGuidesModel", "record", "()V"⟩, 13), (⟨"GlacierGuidesModel", "noGuide", "(I)Z"⟩, 13), (⟨"GlacierGuidesModel", "ofGuide", "(II)I"⟩, 13), (⟨"GlacierGuidesModel", "to", "(III)V"⟩, 13), (⟨"GlacierGuidesModel", "noTour", "(I)Z"⟩, 13), (⟨"GlacierGuidesModel", "isOpen", "(I)Z"⟩, 13), (⟨"GlacierGuidesModel", "of", "(II)I"⟩, 13), (⟨"GlacierGuidesModel", "refunds", "(II)V"⟩, 13), (⟨"GlacierGuidesModel", "mayLead", "(II)Z"⟩, 13), (⟨"GlacierGuidesModel", "isBusy", "(II)Z"⟩, 13), (⟨"GlacierGuidesModel", "leads", "(II)Z"⟩, 13), (⟨"GlacierGuidesModel", "guideOn", "(II)I"⟩, 13), (⟨"GlacierGuidesModel", "ratio", "(II)I"⟩, 13), (⟨"GlacierGuidesModel", "baseOf", "(I)I"⟩, 13), (⟨"GlacierGuidesModel", "leftOver", "(I)I"⟩, 13), (⟨"GlacierGuidesModel", "onRope", "(II)I"⟩, 13)]
theorem lw_r1 : ∀ q ∈ lw_privs_1, lw_okq q := List.forall_mem_cons.mpr ⟨lw_p0, List.forall_mem_cons.mpr ⟨lw_p1, List.forall_mem_cons.mpr ⟨lw_p2, List.forall_mem_cons.mpr ⟨lw_p3, List.forall_mem_cons.mpr ⟨lw_p4, List.forall_mem_cons.mpr ⟨lw_p5, List.forall_mem_cons.mpr ⟨lw_p6, List.forall_mem_cons.mpr ⟨lw_p7, List.forall_mem_cons.mpr ⟨lw_p8, List.forall_mem_cons.mpr ⟨lw_p9, List.forall_mem_cons.mpr ⟨lw_p10, List.forall_mem_cons.mpr ⟨lw_p11, List.forall_mem_cons.mpr ⟨lw_p12, List.forall_mem_cons.mpr ⟨lw_p13, List.forall_mem_cons.mpr ⟨lw_p14, List.forall_mem_cons.mpr ⟨lw_p15, fun _ h => absurd h List.not_mem_nil⟩⟩⟩⟩⟩⟩⟩⟩⟩⟩⟩⟩⟩⟩⟩⟩
theorem lw_p16 : lw_okq (⟨"GlacierGuidesModel", "mayMerge", "(II)Z"⟩, 13) := ⟨⟨by decide +kernel, by decide +kernel⟩, List.mem_of_getElem? (i := 649) (by decide +kernel), List.mem_of_getElem? (i := 821) (by decide +kernel), List.mem_of_getElem? (i := 822) (by decide +kernel)⟩
theorem lw_p17 : lw_okq (⟨"GlacierGuidesModel", "cancels", "(II)I"⟩, 13) := ⟨⟨by decide +kernel, by decide +kernel⟩, List.mem_of_getElem? (i := 649) (by decide +kernel), List.mem_of_getElem? (i := 829) (by decide +kernel), List.mem_of_getElem? (i := 830) (by decide +kernel)⟩
theorem lw_p18 : lw_okq (⟨"GlacierGuidesModel", "passes", "()I"⟩, 13) := ⟨⟨by decide +kernel, by decide +kernel⟩, List.mem_of_getElem? (i := 649) (by decide +kernel), List.mem_of_getElem? (i := 837) (by decide +kernel), List.mem_of_getElem? (i := 838) (by decide +kernel)⟩
theorem lw_p19 : lw_okq (⟨"GlacierGuidesModel", "causeOf", "(I)I"⟩, 13) := ⟨⟨by decide +kernel, by decide +kernel⟩, List.mem_of_getElem? (i := 649) (by decide +kernel), List.mem_of_getElem? (i := 841) (by decide +kernel), List.mem_of_getElem? (i := 842) (by decide +kernel)⟩
theorem lw_p20 : lw_okq (⟨"GlacierGuidesModel", "isHeld", "(II)Z"⟩, 13) := ⟨⟨by decide +kernel, by decide +kernel⟩, List.mem_of_getElem? (i := 649) (by decide +kernel), List.mem_of_getElem? (i := 845) (by decide +kernel), List.mem_of_getElem? (i := 846) (by decide +kernel)⟩
theorem lw_p21 : lw_okq (⟨"GlacierGuidesModel", "neededBy", "(I)D"⟩, 13) := ⟨⟨by decide +kernel, by decide +kernel⟩, List.mem_of_getElem? (i := 649) (by decide +kernel), List.mem_of_getElem? (i := 849) (by decide +kernel), List.mem_of_getElem? (i := 850) (by decide +kernel)⟩
theorem lw_p22 : lw_okq (⟨"GlacierGuidesModel", "goes", "(I)V"⟩, 13) := ⟨⟨by decide +kernel, by decide +kernel⟩, List.mem_of_getElem? (i := 649) (by decide +kernel), List.mem_of_getElem? (i := 854) (by decide +kernel), List.mem_of_getElem? (i := 855) (by decide +kernel)⟩
theorem lw_p23 : lw_okq (⟨"GlacierGuidesModel", "changed", "(D)D"⟩, 13) := ⟨⟨by decide +kernel, by decide +kernel⟩, List.mem_of_getElem? (i := 649) (by decide +kernel), List.mem_of_getElem? (i := 858) (by decide +kernel), List.mem_of_getElem? (i := 859) (by decide +kernel)⟩
theorem lw_p24 : lw_okq (⟨"GlacierGuidesModel", "word", "()I"⟩, 13) := ⟨⟨by decide +kernel, by decide +kernel⟩, List.mem_of_getElem? (i := 649) (by decide +kernel), List.mem_of_getElem? (i := 876) (by decide +kernel), List.mem_of_getElem? (i := 877) (by decide +kernel)⟩
theorem lw_p25 : lw_okq (⟨"GlacierGuidesModel", "isWord", "(ICCCC)Z"⟩, 13) := ⟨⟨by decide +kernel, by decide +kernel⟩, List.mem_of_getElem? (i := 649) (by decide +kernel), List.mem_of_getElem? (i := 880) (by decide +kernel), List.mem_of_getElem? (i := 881) (by decide +kernel)⟩
theorem lw_p26 : lw_okq (⟨"GlacierGuidesModel", "number", "()I"⟩, 13) := ⟨⟨by decide +kernel, by decide +kernel⟩, List.mem_of_getElem? (i := 649) (by decide +kernel), List.mem_of_getElem? (i := 884) (by decide +kernel), List.mem_of_getElem? (i := 885) (by decide +kernel)⟩
theorem lw_p27 : lw_okq (⟨"GlacierGuidesModel", "lowestTour", "(I)I"⟩, 13) := ⟨⟨by decide +kernel, by decide +kernel⟩, List.mem_of_getElem? (i := 649) (by decide +kernel), List.mem_of_getElem? (i := 909) (by decide +kernel), List.mem_of_getElem? (i := 910) (by decide +kernel)⟩
theorem lw_p28 : lw_okq (⟨"GlacierGuidesModel", "noBridge", "(I)Z"⟩, 13) := ⟨⟨by decide +kernel, by decide +kernel⟩, List.mem_of_getElem? (i := 649) (by decide +kernel), List.mem_of_getElem? (i := 925) (by decide +kernel), List.mem_of_getElem? (i := 926) (by decide +kernel)⟩
theorem lw_p29 : lw_okq (⟨"GlacierGuidesModel", "inState", "(I)I"⟩, 13) := ⟨⟨by decide +kernel, by decide +kernel⟩, List.mem_of_getElem? (i := 649) (by decide +kernel), List.mem_of_getElem? (i := 957) (by decide +kernel), List.mem_of_getElem? (i := 958) (by decide +kernel)⟩
theorem lw_p30 : lw_okq (⟨"GlacierGuidesModel", "paidAll", "()I"⟩, 13) := ⟨⟨by decide +kernel, by decide +kernel⟩, List.mem_of_getElem? (i := 649) (by decide +kernel), List.mem_of_getElem? (i := 961) (by decide +kernel), List.mem_of_getElem? (i := 962) (by decide +kernel)⟩
theorem lw_p31 : lw_okq (⟨"GlacierGuidesModel", "goneGuests", "()I"⟩, 13) := ⟨⟨by decide +kernel, by decide +kernel⟩, List.mem_of_getElem? (i := 649) (by decide +kernel), List.mem_of_getElem? (i := 965) (by decide +kernel), List.mem_of_getElem? (i := 966) (by decide +kernel)⟩
def lw_privs_2 : List (MethodName × Nat) := [(⟨"GlacierGuidesModel", "mayMerge", "(II)Z"⟩, 13), (⟨"GlacierGuidesModel", "cancels", "(II)I"⟩, 13), (⟨"GlacierGuidesModel", "passes", "()I"⟩, 13), (⟨"GlacierGuidesModel", "causeOf", "(I)I"⟩, 13), (⟨"GlacierGuidesModel", "isHeld", "(II)Z"⟩, 13), (⟨"GlacierGuidesModel", "neededBy", "(I)D"⟩, 13), (⟨"GlacierGuidesModel", "goes", "(I)V"⟩, 13), (⟨"GlacierGuidesModel", "changed", "(D)D"⟩, 13), (⟨"GlacierGuidesModel", "word", "()I"⟩, 13), (⟨"GlacierGuidesModel", "isWord", "(ICCCC)Z"⟩, 13), (⟨"GlacierGuidesModel", "number", "()I"⟩, 13), (⟨"GlacierGuidesModel", "lowestTour", "(I)I"⟩, 13), (⟨"GlacierGuidesModel", "noBridge", "(I)Z"⟩, 13), (⟨"GlacierGuidesModel", "inState", "(I)I"⟩, 13), (⟨"GlacierGuidesModel", "paidAll", "()I"⟩, 13), (⟨"GlacierGuidesModel", "goneGuests", "()I"⟩, 13)]
theorem lw_r2 : ∀ q ∈ lw_privs_2, lw_okq q := List.forall_mem_cons.mpr ⟨lw_p16, List.forall_mem_cons.mpr ⟨lw_p17, List.forall_mem_cons.mpr ⟨lw_p18, List.forall_mem_cons.mpr ⟨lw_p19, List.forall_mem_cons.mpr ⟨lw_p20, List.forall_mem_cons.mpr ⟨lw_p21, List.forall_mem_cons.mpr ⟨lw_p22, List.forall_mem_cons.mpr ⟨lw_p23, List.forall_mem_cons.mpr ⟨lw_p24, List.forall_mem_cons.mpr ⟨lw_p25, List.forall_mem_cons.mpr ⟨lw_p26, List.forall_mem_cons.mpr ⟨lw_p27, List.forall_mem_cons.mpr ⟨lw_p28, List.forall_mem_cons.mpr ⟨lw_p29, List.forall_mem_cons.mpr ⟨lw_p30, List.forall_mem_cons.mpr ⟨lw_p31, fun _ h => absurd h List.not_mem_nil⟩⟩⟩⟩⟩⟩⟩⟩⟩⟩⟩⟩⟩⟩⟩⟩
def lw_privs : List (MethodName × Nat) := lw_privs_1 ++ (lw_privs_2)
def lw_tbl : List Cond := k2_sels lw_privs ++ tables_1
theorem lw_privs_ok : ∀ q ∈ lw_privs, lw_okq q := by
  show ∀ q ∈ lw_privs_1 ++ (lw_privs_2), lw_okq q
  exact List.forall_mem_append.mpr ⟨lw_r1, lw_r2⟩
/-- the streams that the claim lets the run draw from -/
abbrev lw_cs : List Choice := [Jvm.Choice.named "NaN.bits", Jvm.Choice.named "NaN.copy"]
theorem lw_bits : nanBits ∈ lw_cs := by first | decide | exact List.mem_cons_self | simp [lw_cs, nanBits]
end
section
theorem goodIn_r {big : List Cond} (ws : List Cond) (ps : List Nat) (hp : ws = ps.filterMap (fun i => big[i]?)) (h : ws.all goodWord = true) : GoodIn big ws := by
  intro w hw
  have h1 := List.all_eq_true.mp h w hw
  rw [hp] at hw
  obtain ⟨i, -, hi⟩ := List.mem_filterMap.mp hw
  have hm : w ∈ big := by first | exact List.mem_of_getElem? hi | exact List.getElem?_mem hi
  exact ⟨hm, good_of_word h1⟩
theorem goodIn_app {big a b : List Cond} (ha : GoodIn big a) (hb : GoodIn big b) : GoodIn big (a ++ b) := fun w h => (List.mem_append.mp h).elim (ha w) (hb w)
theorem goodIn_ca {big a b : List Cond} {c : Cond} (ha : GoodIn big (c :: a)) (hb : GoodIn big b) : GoodIn big (c :: (a ++ b)) := fun w h => (List.mem_cons.mp h).elim (fun e => ha w (List.mem_cons.mpr (Or.inl e))) (fun h => (List.mem_append.mp h).elim (fun h => ha w (List.mem_cons.mpr (Or.inr h))) (hb w))
theorem goodIn_sub {big ws : List Cond} (hm : ∀ w ∈ ws, w ∈ big) (h : ws.all goodWord = true) : GoodIn big ws := fun w hw => ⟨hm w hw, good_of_word (List.all_eq_true.mp h w hw)⟩
def RX0 : String := "GlacierGuides$Guide"
def TX0 : u_T := fun k => match k with
  | 0 => ("GlacierGuides$Guide", "kind", "I", false)
  | 1 => ("GlacierGuides$Guide", "until", "I", false)
  | 2 => ("GlacierGuides$Guide", "toursLed", "I", false)
  | _ => ("GlacierGuides$Guide", "guestsLed", "I", false)
def tyX0 : Nat → FieldType := fun k => match k with
  | 0 => .int
  | 1 => .int
  | 2 => .int
  | _ => .int
abbrev wsX00 : List Cond := u_ws RX0 TX0 4
theorem nmX0 : ∀ a, a < 4 → ∀ b, b < 4 → a ≠ b → (TX0 a).2.1 ≠ (TX0 b).2.1 := by decide +kernel
theorem tyX0_ok : ∀ k, k < 4 → parseFieldDescriptor (TX0 k).2.2.1 = some (tyX0 k) := by decide +kernel
abbrev cX0_init : ByteArray := prog_2_method_1_code
def yX0_init : MethodName := ⟨RX0, "<init>", "()V"⟩
abbrev cX0_begin : ByteArray := prog_2_method_2_code
def yX0_begin : MethodName := ⟨RX0, "begin", "(II)V"⟩
abbrev cX0_copyFrom : ByteArray := prog_2_method_3_code
def yX0_copyFrom : MethodName := ⟨RX0, "copyFrom", "(LGlacierGuides$Guide;)V"⟩
abbrev cX0_haveLed : ByteArray := prog_2_method_4_code
def yX0_haveLed : MethodName := ⟨RX0, "haveLed", "(I)V"⟩
abbrev cX0_certify : ByteArray := prog_2_method_5_code
def yX0_certify : MethodName := ⟨RX0, "certify", "(II)V"⟩
abbrev cX0_isValidOn : ByteArray := prog_2_method_6_code
def yX0_isValidOn : MethodName := ⟨RX0, "isValidOn", "(I)Z"⟩
def RX1 : String := "GlacierGuides$History"
def TX1 : u_T := fun k => match k with
  | 0 => ("GlacierGuides$History", "states", "[LGlacierGuides$State;", true)
  | 1 => ("GlacierGuides$History", "oldest", "I", false)
  | _ => ("GlacierGuides$History", "size", "I", false)
def tyX1 : Nat → FieldType := fun k => match k with
  | 0 => .array (.object "GlacierGuides$State")
  | 1 => .int
  | _ => .int
abbrev wsX10 : List Cond := u_ws RX1 TX1 3
theorem nmX1 : ∀ a, a < 3 → ∀ b, b < 3 → a ≠ b → (TX1 a).2.1 ≠ (TX1 b).2.1 := by decide +kernel
theorem tyX1_ok : ∀ k, k < 3 → parseFieldDescriptor (TX1 k).2.2.1 = some (tyX1 k) := by decide +kernel
abbrev cX1_init : ByteArray := prog_3_method_1_code
def yX1_init : MethodName := ⟨RX1, "<init>", "()V"⟩
abbrev cX1_record : ByteArray := prog_3_method_2_code
def yX1_record : MethodName := ⟨RX1, "record", "(LGlacierGuides$State;)V"⟩
abbrev cX1_takeBack : ByteArray := prog_3_method_3_code
def yX1_takeBack : MethodName := ⟨RX1, "takeBack", "(LGlacierGuides$State;)V"⟩
def RX2 : String := "GlacierGuides$State"
def TX2 : u_T := fun k => match k with
  | 0 => ("GlacierGuides$State", "guides", "[LGlacierGuides$Guide;", true)
  | 1 => ("GlacierGuides$State", "thicknesses", "[D", true)
  | 2 => ("GlacierGuides$State", "tours", "[LGlacierGuides$Tour;", true)
  | 3 => ("GlacierGuides$State", "guideCount", "I", false)
  | 4 => ("GlacierGuides$State", "bridgeCount", "I", false)
  | 5 => ("GlacierGuides$State", "tourCount", "I", false)
  | 6 => ("GlacierGuides$State", "day", "I", false)
  | 7 => ("GlacierGuides$State", "degreeBits", "J", false)
  | 8 => ("GlacierGuides$State", "degrees", "D", false)
  | _ => ("GlacierGuides$State", "refunded", "I", false)
def tyX2 : Nat → FieldType := fun k => match k with
  | 0 => .array (.object "GlacierGuides$Guide")
  | 1 => .array .double
  | 2 => .array (.object "GlacierGuides$Tour")
  | 3 => .int
  | 4 => .int
  | 5 => .int
  | 6 => .int
  | 7 => .long
  | 8 => .double
  | _ => .int
abbrev wsX20 : List Cond := u_ws RX2 TX2 10
theorem nmX2 : ∀ a, a < 10 → ∀ b, b < 10 → a ≠ b → (TX2 a).2.1 ≠ (TX2 b).2.1 := by decide +kernel
theorem tyX2_ok : ∀ k, k < 10 → parseFieldDescriptor (TX2 k).2.2.1 = some (tyX2 k) := by decide +kernel
abbrev cX2_init : ByteArray := prog_4_method_1_code
def yX2_init : MethodName := ⟨RX2, "<init>", "()V"⟩
abbrev cX2_copyFrom : ByteArray := prog_4_method_2_code
def yX2_copyFrom : MethodName := ⟨RX2, "copyFrom", "(LGlacierGuides$State;)V"⟩
abbrev cX2_guideAt : ByteArray := prog_4_method_3_code
def yX2_guideAt : MethodName := ⟨RX2, "guideAt", "(I)LGlacierGuides$Guide;"⟩
abbrev cX2_tourAt : ByteArray := prog_4_method_4_code
def yX2_tourAt : MethodName := ⟨RX2, "tourAt", "(I)LGlacierGuides$Tour;"⟩
abbrev cX2_hasBridge : ByteArray := prog_4_method_5_code
def yX2_hasBridge : MethodName := ⟨RX2, "hasBridge", "(I)Z"⟩
abbrev cX2_hasBridges : ByteArray := prog_4_method_6_code
def yX2_hasBridges : MethodName := ⟨RX2, "hasBridges", "(I)Z"⟩
abbrev cX2_mayLead : ByteArray := prog_4_method_7_code
def yX2_mayLead : MethodName := ⟨RX2, "mayLead", "(ILGlacierGuides$Tour;)Z"⟩
abbrev cX2_isBusyOn : ByteArray := prog_4_method_8_code
def yX2_isBusyOn : MethodName := ⟨RX2, "isBusyOn", "(II)Z"⟩
abbrev cX2_ratioOf : ByteArray := prog_4_method_9_code
def yX2_ratioOf : MethodName := ⟨RX2, "ratioOf", "(ILGlacierGuides$Tour;)I"⟩
abbrev cX2_leftAfter : ByteArray := prog_4_method_10_code
def yX2_leftAfter : MethodName := ⟨RX2, "leftAfter", "(LGlacierGuides$Tour;I)I"⟩
abbrev cX2_guestsOnRope : ByteArray := prog_4_method_11_code
def yX2_guestsOnRope : MethodName := ⟨RX2, "guestsOnRope", "(LGlacierGuides$Tour;I)I"⟩
abbrev cX2_firstOpenTourOf : ByteArray := prog_4_method_12_code
def yX2_firstOpenTourOf : MethodName := ⟨RX2, "firstOpenTourOf", "(I)I"⟩
abbrev cX2_neededBy : ByteArray := prog_4_method_13_code
def yX2_neededBy : MethodName := ⟨RX2, "neededBy", "(LGlacierGuides$Tour;)D"⟩
abbrev cX2_allBridgesHold : ByteArray := prog_4_method_14_code
def yX2_allBridgesHold : MethodName := ⟨RX2, "allBridgesHold", "(LGlacierGuides$Tour;)Z"⟩
abbrev cX2_dayLater : ByteArray := prog_4_method_15_code
def yX2_dayLater : MethodName := ⟨RX2, "dayLater", "(D)D"⟩
abbrev cX2_causeAgainst : ByteArray := prog_4_method_16_code
def yX2_causeAgainst : MethodName := ⟨RX2, "causeAgainst", "(LGlacierGuides$Tour;)I"⟩
abbrev cX2_allGuidesAreValid : ByteArray := prog_4_method_17_code
def yX2_allGuidesAreValid : MethodName := ⟨RX2, "allGuidesAreValid", "(LGlacierGuides$Tour;)Z"⟩
abbrev cX2_passDay : ByteArray := prog_4_method_18_code
def yX2_passDay : MethodName := ⟨RX2, "passDay", "()I"⟩
abbrev cX2_letGo : ByteArray := prog_4_method_19_code
def yX2_letGo : MethodName := ⟨RX2, "letGo", "(LGlacierGuides$Tour;)V"⟩
abbrev cX2_callOff : ByteArray := prog_4_method_20_code
def yX2_callOff : MethodName := ⟨RX2, "callOff", "(LGlacierGuides$Tour;I)I"⟩
abbrev cX2_payBack : ByteArray := prog_4_method_21_code
def yX2_payBack : MethodName := ⟨RX2, "payBack", "(LGlacierGuides$Tour;I)V"⟩
abbrev cX2_toursThatAre : ByteArray := prog_4_method_22_code
def yX2_toursThatAre : MethodName := ⟨RX2, "toursThatAre", "(I)I"⟩
abbrev cX2_allPaid : ByteArray := prog_4_method_23_code
def yX2_allPaid : MethodName := ⟨RX2, "allPaid", "()I"⟩
abbrev cX2_guestsGone : ByteArray := prog_4_method_24_code
def yX2_guestsGone : MethodName := ⟨RX2, "guestsGone", "()I"⟩
def RX3 : String := "GlacierGuides$Text"
def TX3 : u_T := fun k => match k with
  | 0 => ("GlacierGuides$Text", "characters", "[C", true)
  | 1 => ("GlacierGuides$Text", "length", "I", false)
  | 2 => ("GlacierGuides$Text", "command", "I", false)
  | 3 => ("GlacierGuides$Text", "first", "I", false)
  | _ => ("GlacierGuides$Text", "second", "I", false)
def tyX3 : Nat → FieldType := fun k => match k with
  | 0 => .array .char
  | 1 => .int
  | 2 => .int
  | 3 => .int
  | _ => .int
abbrev wsX30 : List Cond := u_ws RX3 TX3 5
theorem nmX3 : ∀ a, a < 5 → ∀ b, b < 5 → a ≠ b → (TX3 a).2.1 ≠ (TX3 b).2.1 := by decide +kernel
theorem tyX3_ok : ∀ k, k < 5 → parseFieldDescriptor (TX3 k).2.2.1 = some (tyX3 k) := by decide +kernel
abbrev cX3_init : ByteArray := prog_5_method_1_code
def yX3_init : MethodName := ⟨RX3, "<init>", "()V"⟩
abbrev cX3_append : ByteArray := prog_5_method_2_code
def yX3_append : MethodName := ⟨RX3, "append", "(C)V"⟩
abbrev cX3_read : ByteArray := prog_5_method_3_code
def yX3_read : MethodName := ⟨RX3, "read", "()I"⟩
abbrev cX3_wordLength : ByteArray := prog_5_method_4_code
def yX3_wordLength : MethodName := ⟨RX3, "wordLength", "()I"⟩
abbrev cX3_commandOf : ByteArray := prog_5_method_5_code
def yX3_commandOf : MethodName := ⟨RX3, "commandOf", "(I)I"⟩
abbrev cX3_isWord : ByteArray := prog_5_method_6_code
def yX3_isWord : MethodName := ⟨RX3, "isWord", "(Ljava/lang/String;I)Z"⟩
abbrev cX3_isBlankAt : ByteArray := prog_5_method_7_code
def yX3_isBlankAt : MethodName := ⟨RX3, "isBlankAt", "(I)Z"⟩
abbrev cX3_isDigitAt : ByteArray := prog_5_method_8_code
def yX3_isDigitAt : MethodName := ⟨RX3, "isDigitAt", "(I)Z"⟩
abbrev cX3_digitsAt : ByteArray := prog_5_method_9_code
def yX3_digitsAt : MethodName := ⟨RX3, "digitsAt", "(I)I"⟩
abbrev cX3_keepNumber : ByteArray := prog_5_method_10_code
def yX3_keepNumber : MethodName := ⟨RX3, "keepNumber", "(III)V"⟩
def RX4 : String := "GlacierGuides$Tour"
def TX4 : u_T := fun k => match k with
  | 0 => ("GlacierGuides$Tour", "row", "[I", true)
  | 1 => ("GlacierGuides$Tour", "day", "I", false)
  | 2 => ("GlacierGuides$Tour", "slope", "D", false)
  | 3 => ("GlacierGuides$Tour", "base", "I", false)
  | 4 => ("GlacierGuides$Tour", "price", "I", false)
  | 5 => ("GlacierGuides$Tour", "bridges", "I", false)
  | 6 => ("GlacierGuides$Tour", "guests", "I", false)
  | 7 => ("GlacierGuides$Tour", "guides", "I", false)
  | 8 => ("GlacierGuides$Tour", "paid", "I", false)
  | 9 => ("GlacierGuides$Tour", "state", "I", false)
  | _ => ("GlacierGuides$Tour", "cause", "I", false)
def tyX4 : Nat → FieldType := fun k => match k with
  | 0 => .array .int
  | 1 => .int
  | 2 => .double
  | 3 => .int
  | 4 => .int
  | 5 => .int
  | 6 => .int
  | 7 => .int
  | 8 => .int
  | 9 => .int
  | _ => .int
abbrev wsX40 : List Cond := u_ws RX4 TX4 11
theorem nmX4 : ∀ a, a < 11 → ∀ b, b < 11 → a ≠ b → (TX4 a).2.1 ≠ (TX4 b).2.1 := by decide +kernel
theorem tyX4_ok : ∀ k, k < 11 → parseFieldDescriptor (TX4 k).2.2.1 = some (tyX4 k) := by decide +kernel
abbrev cX4_init : ByteArray := prog_6_method_1_code
def yX4_init : MethodName := ⟨RX4, "<init>", "()V"⟩
abbrev cX4_begin : ByteArray := prog_6_method_2_code
def yX4_begin : MethodName := ⟨RX4, "begin", "(IDII)V"⟩
abbrev cX4_copyFrom : ByteArray := prog_6_method_3_code
def yX4_copyFrom : MethodName := ⟨RX4, "copyFrom", "(LGlacierGuides$Tour;)V"⟩
abbrev cX4_baseOf : ByteArray := prog_6_method_4_code
def yX4_baseOf : MethodName := ⟨RX4, "baseOf", "(D)I"⟩
abbrev cX4_hasInRow : ByteArray := prog_6_method_5_code
def yX4_hasInRow : MethodName := ⟨RX4, "hasInRow", "(I)Z"⟩
abbrev cX4_addToRow : ByteArray := prog_6_method_6_code
def yX4_addToRow : MethodName := ⟨RX4, "addToRow", "(I)V"⟩
abbrev cX4_takeFromRow : ByteArray := prog_6_method_7_code
def yX4_takeFromRow : MethodName := ⟨RX4, "takeFromRow", "(I)V"⟩
abbrev cX4_refundFor : ByteArray := prog_6_method_8_code
def yX4_refundFor : MethodName := ⟨RX4, "refundFor", "(II)I"⟩
abbrev cX4_shareAt : ByteArray := prog_6_method_9_code
def yX4_shareAt : MethodName := ⟨RX4, "shareAt", "(I)D"⟩
abbrev cX4_fitsInto : ByteArray := prog_6_method_10_code
def yX4_fitsInto : MethodName := ⟨RX4, "fitsInto", "(LGlacierGuides$Tour;)Z"⟩
abbrev cX4_moveInto : ByteArray := prog_6_method_11_code
def yX4_moveInto : MethodName := ⟨RX4, "moveInto", "(LGlacierGuides$Tour;)V"⟩
def RX5 : String := "GlacierGuides"
def TX5 : u_T := fun k => match k with
  | 0 => ("GlacierGuides", "now", "LGlacierGuides$State;", true)
  | 1 => ("GlacierGuides", "snapshot", "LGlacierGuides$State;", true)
  | 2 => ("GlacierGuides", "history", "LGlacierGuides$History;", true)
  | 3 => ("GlacierGuides", "text", "LGlacierGuides$Text;", true)
  | _ => ("GlacierGuides", "hasSnapshot", "Z", false)
def tyX5 : Nat → FieldType := fun k => match k with
  | 0 => .object "GlacierGuides$State"
  | 1 => .object "GlacierGuides$State"
  | 2 => .object "GlacierGuides$History"
  | 3 => .object "GlacierGuides$Text"
  | _ => .boolean
abbrev wsX50 : List Cond := u_ws RX5 TX5 5
theorem nmX5 : ∀ a, a < 5 → ∀ b, b < 5 → a ≠ b → (TX5 a).2.1 ≠ (TX5 b).2.1 := by decide +kernel
theorem tyX5_ok : ∀ k, k < 5 → parseFieldDescriptor (TX5 k).2.2.1 = some (tyX5 k) := by decide +kernel
abbrev cX5_init : ByteArray := prog_1_method_1_code
def yX5_init : MethodName := ⟨RX5, "<init>", "()V"⟩
abbrev cX5_addGuide : ByteArray := prog_1_method_2_code
def yX5_addGuide : MethodName := ⟨RX5, "addGuide", "(II)I"⟩
abbrev cX5_renew : ByteArray := prog_1_method_3_code
def yX5_renew : MethodName := ⟨RX5, "renew", "(III)I"⟩
abbrev cX5_addBridge : ByteArray := prog_1_method_4_code
def yX5_addBridge : MethodName := ⟨RX5, "addBridge", "(J)I"⟩
abbrev cX5_setTemperature : ByteArray := prog_1_method_5_code
def yX5_setTemperature : MethodName := ⟨RX5, "setTemperature", "(J)I"⟩
abbrev cX5_addTour : ByteArray := prog_1_method_6_code
def yX5_addTour : MethodName := ⟨RX5, "addTour", "(IJII)I"⟩
abbrev cX5_book : ByteArray := prog_1_method_7_code
def yX5_book : MethodName := ⟨RX5, "book", "(II)I"⟩
abbrev cX5_leave : ByteArray := prog_1_method_8_code
def yX5_leave : MethodName := ⟨RX5, "leave", "(II)I"⟩
abbrev cX5_lead : ByteArray := prog_1_method_9_code
def yX5_lead : MethodName := ⟨RX5, "lead", "(II)I"⟩
abbrev cX5_release : ByteArray := prog_1_method_10_code
def yX5_release : MethodName := ⟨RX5, "release", "(II)I"⟩
abbrev cX5_merge : ByteArray := prog_1_method_11_code
def yX5_merge : MethodName := ⟨RX5, "merge", "(II)I"⟩
abbrev cX5_cancel : ByteArray := prog_1_method_12_code
def yX5_cancel : MethodName := ⟨RX5, "cancel", "(I)I"⟩
abbrev cX5_pass : ByteArray := prog_1_method_13_code
def yX5_pass : MethodName := ⟨RX5, "pass", "(I)I"⟩
abbrev cX5_type : ByteArray := prog_1_method_14_code
def yX5_type : MethodName := ⟨RX5, "type", "(C)I"⟩
abbrev cX5_clearText : ByteArray := prog_1_method_15_code
def yX5_clearText : MethodName := ⟨RX5, "clearText", "()I"⟩
abbrev cX5_perform : ByteArray := prog_1_method_16_code
def yX5_perform : MethodName := ⟨RX5, "perform", "()I"⟩
abbrev cX5_undo : ByteArray := prog_1_method_17_code
def yX5_undo : MethodName := ⟨RX5, "undo", "()I"⟩
abbrev cX5_keep : ByteArray := prog_1_method_18_code
def yX5_keep : MethodName := ⟨RX5, "keep", "()I"⟩
abbrev cX5_restore : ByteArray := prog_1_method_19_code
def yX5_restore : MethodName := ⟨RX5, "restore", "()I"⟩
abbrev cX5_guide : ByteArray := prog_1_method_20_code
def yX5_guide : MethodName := ⟨RX5, "guide", "(II)I"⟩
abbrev cX5_tour : ByteArray := prog_1_method_21_code
def yX5_tour : MethodName := ⟨RX5, "tour", "(II)I"⟩
abbrev cX5_rope : ByteArray := prog_1_method_22_code
def yX5_rope : MethodName := ⟨RX5, "rope", "(III)I"⟩
abbrev cX5_thickness : ByteArray := prog_1_method_23_code
def yX5_thickness : MethodName := ⟨RX5, "thickness", "(I)D"⟩
abbrev cX5_foretold : ByteArray := prog_1_method_24_code
def yX5_foretold : MethodName := ⟨RX5, "foretold", "(II)D"⟩
abbrev cX5_needed : ByteArray := prog_1_method_25_code
def yX5_needed : MethodName := ⟨RX5, "needed", "(I)D"⟩
abbrev cX5_holds : ByteArray := prog_1_method_26_code
def yX5_holds : MethodName := ⟨RX5, "holds", "(II)I"⟩
abbrev cX5_bestGuide : ByteArray := prog_1_method_27_code
def yX5_bestGuide : MethodName := ⟨RX5, "bestGuide", "(I)I"⟩
abbrev cX5_takes : ByteArray := prog_1_method_28_code
def yX5_takes : MethodName := ⟨RX5, "takes", "(II)I"⟩
abbrev cX5_count : ByteArray := prog_1_method_29_code
def yX5_count : MethodName := ⟨RX5, "count", "(I)I"⟩
abbrev cX5_temperature : ByteArray := prog_1_method_30_code
def yX5_temperature : MethodName := ⟨RX5, "temperature", "()J"⟩
abbrev cX5_isClass : ByteArray := prog_1_method_31_code
def yX5_isClass : MethodName := ⟨RX5, "isClass", "(I)Z"⟩
abbrev cX5_isLastDay : ByteArray := prog_1_method_32_code
def yX5_isLastDay : MethodName := ⟨RX5, "isLastDay", "(I)Z"⟩
abbrev cX5_isGuests : ByteArray := prog_1_method_33_code
def yX5_isGuests : MethodName := ⟨RX5, "isGuests", "(I)Z"⟩
abbrev cX5_isFromZeroTo : ByteArray := prog_1_method_34_code
def yX5_isFromZeroTo : MethodName := ⟨RX5, "isFromZeroTo", "(JJ)Z"⟩
abbrev cX5_isTemperature : ByteArray := prog_1_method_35_code
def yX5_isTemperature : MethodName := ⟨RX5, "isTemperature", "(J)Z"⟩
abbrev cX5_numberOf : ByteArray := prog_1_method_36_code
def yX5_numberOf : MethodName := ⟨RX5, "numberOf", "(J)D"⟩
abbrev cX5_halved : ByteArray := prog_1_method_37_code
def yX5_halved : MethodName := ⟨RX5, "halved", "(I)D"⟩
abbrev cX5_noNumber : ByteArray := prog_1_method_38_code
def yX5_noNumber : MethodName := ⟨RX5, "noNumber", "()D"⟩
def RX6 : String := "GlacierGuidesModel"
def TX6 : u_T := fun k => match k with
  | 0 => ("GlacierGuidesModel", "now", "[I", true)
  | 1 => ("GlacierGuidesModel", "history", "[I", true)
  | 2 => ("GlacierGuidesModel", "slot", "[I", true)
  | 3 => ("GlacierGuidesModel", "real", "[D", true)
  | 4 => ("GlacierGuidesModel", "realHistory", "[D", true)
  | 5 => ("GlacierGuidesModel", "realSlot", "[D", true)
  | 6 => ("GlacierGuidesModel", "kept", "I", false)
  | 7 => ("GlacierGuidesModel", "isFilled", "Z", false)
  | 8 => ("GlacierGuidesModel", "typed", "I", false)
  | 9 => ("GlacierGuidesModel", "text", "[C", true)
  | 10 => ("GlacierGuidesModel", "at", "I", false)
  | 11 => ("GlacierGuidesModel", "readOne", "I", false)
  | _ => ("GlacierGuidesModel", "readTwo", "I", false)
def tyX6 : Nat → FieldType := fun k => match k with
  | 0 => .array .int
  | 1 => .array .int
  | 2 => .array .int
  | 3 => .array .double
  | 4 => .array .double
  | 5 => .array .double
  | 6 => .int
  | 7 => .boolean
  | 8 => .int
  | 9 => .array .char
  | 10 => .int
  | 11 => .int
  | _ => .int
abbrev wsX60 : List Cond := u_ws RX6 TX6 13
theorem nmX6 : ∀ a, a < 13 → ∀ b, b < 13 → a ≠ b → (TX6 a).2.1 ≠ (TX6 b).2.1 := by decide +kernel
theorem tyX6_ok : ∀ k, k < 13 → parseFieldDescriptor (TX6 k).2.2.1 = some (tyX6 k) := by decide +kernel
abbrev cX6_init : ByteArray := prog_8_method_1_code
def yX6_init : MethodName := ⟨RX6, "<init>", "()V"⟩
abbrev cX6_in : ByteArray := prog_8_method_2_code
def yX6_in : MethodName := ⟨RX6, "in", "(III)Z"⟩
abbrev cX6_record : ByteArray := prog_8_method_3_code
def yX6_record : MethodName := ⟨RX6, "record", "()V"⟩
abbrev cX6_noGuide : ByteArray := prog_8_method_4_code
def yX6_noGuide : MethodName := ⟨RX6, "noGuide", "(I)Z"⟩
abbrev cX6_noBridge : ByteArray := prog_8_method_5_code
def yX6_noBridge : MethodName := ⟨RX6, "noBridge", "(I)Z"⟩
abbrev cX6_noTour : ByteArray := prog_8_method_6_code
def yX6_noTour : MethodName := ⟨RX6, "noTour", "(I)Z"⟩
abbrev cX6_ofGuide : ByteArray := prog_8_method_7_code
def yX6_ofGuide : MethodName := ⟨RX6, "ofGuide", "(II)I"⟩
abbrev cX6_of : ByteArray := prog_8_method_8_code
def yX6_of : MethodName := ⟨RX6, "of", "(II)I"⟩
abbrev cX6_to : ByteArray := prog_8_method_9_code
def yX6_to : MethodName := ⟨RX6, "to", "(III)V"⟩
abbrev cX6_isOpen : ByteArray := prog_8_method_10_code
def yX6_isOpen : MethodName := ⟨RX6, "isOpen", "(I)Z"⟩
abbrev cX6_isCertificate : ByteArray := prog_8_method_11_code
def yX6_isCertificate : MethodName := ⟨RX6, "isCertificate", "(II)Z"⟩
abbrev cX6_addGuide : ByteArray := prog_8_method_12_code
def yX6_addGuide : MethodName := ⟨RX6, "addGuide", "(II)I"⟩
abbrev cX6_renew : ByteArray := prog_8_method_13_code
def yX6_renew : MethodName := ⟨RX6, "renew", "(III)I"⟩
abbrev cX6_isUpTo : ByteArray := prog_8_method_14_code
def yX6_isUpTo : MethodName := ⟨RX6, "isUpTo", "(JD)Z"⟩
abbrev cX6_addBridge : ByteArray := prog_8_method_15_code
def yX6_addBridge : MethodName := ⟨RX6, "addBridge", "(J)I"⟩
abbrev cX6_setTemperature : ByteArray := prog_8_method_16_code
def yX6_setTemperature : MethodName := ⟨RX6, "setTemperature", "(J)I"⟩
abbrev cX6_baseOf : ByteArray := prog_8_method_17_code
def yX6_baseOf : MethodName := ⟨RX6, "baseOf", "(I)I"⟩
abbrev cX6_ratio : ByteArray := prog_8_method_18_code
def yX6_ratio : MethodName := ⟨RX6, "ratio", "(II)I"⟩
abbrev cX6_guideOn : ByteArray := prog_8_method_19_code
def yX6_guideOn : MethodName := ⟨RX6, "guideOn", "(II)I"⟩
abbrev cX6_onRope : ByteArray := prog_8_method_20_code
def yX6_onRope : MethodName := ⟨RX6, "onRope", "(II)I"⟩
abbrev cX6_leftOver : ByteArray := prog_8_method_21_code
def yX6_leftOver : MethodName := ⟨RX6, "leftOver", "(I)I"⟩
abbrev cX6_neededBy : ByteArray := prog_8_method_22_code
def yX6_neededBy : MethodName := ⟨RX6, "neededBy", "(I)D"⟩
abbrev cX6_isHeld : ByteArray := prog_8_method_23_code
def yX6_isHeld : MethodName := ⟨RX6, "isHeld", "(II)Z"⟩
abbrev cX6_causeOf : ByteArray := prog_8_method_24_code
def yX6_causeOf : MethodName := ⟨RX6, "causeOf", "(I)I"⟩
abbrev cX6_addTour : ByteArray := prog_8_method_25_code
def yX6_addTour : MethodName := ⟨RX6, "addTour", "(IJII)I"⟩
abbrev cX6_book : ByteArray := prog_8_method_26_code
def yX6_book : MethodName := ⟨RX6, "book", "(II)I"⟩
abbrev cX6_refunds : ByteArray := prog_8_method_27_code
def yX6_refunds : MethodName := ⟨RX6, "refunds", "(II)V"⟩
abbrev cX6_leave : ByteArray := prog_8_method_28_code
def yX6_leave : MethodName := ⟨RX6, "leave", "(II)I"⟩
abbrev cX6_leads : ByteArray := prog_8_method_29_code
def yX6_leads : MethodName := ⟨RX6, "leads", "(II)Z"⟩
abbrev cX6_isBusy : ByteArray := prog_8_method_30_code
def yX6_isBusy : MethodName := ⟨RX6, "isBusy", "(II)Z"⟩
abbrev cX6_mayLead : ByteArray := prog_8_method_31_code
def yX6_mayLead : MethodName := ⟨RX6, "mayLead", "(II)Z"⟩
abbrev cX6_lead : ByteArray := prog_8_method_32_code
def yX6_lead : MethodName := ⟨RX6, "lead", "(II)I"⟩
abbrev cX6_release : ByteArray := prog_8_method_33_code
def yX6_release : MethodName := ⟨RX6, "release", "(II)I"⟩
abbrev cX6_mayMerge : ByteArray := prog_8_method_34_code
def yX6_mayMerge : MethodName := ⟨RX6, "mayMerge", "(II)Z"⟩
abbrev cX6_merge : ByteArray := prog_8_method_35_code
def yX6_merge : MethodName := ⟨RX6, "merge", "(II)I"⟩
abbrev cX6_cancels : ByteArray := prog_8_method_36_code
def yX6_cancels : MethodName := ⟨RX6, "cancels", "(II)I"⟩
abbrev cX6_cancel : ByteArray := prog_8_method_37_code
def yX6_cancel : MethodName := ⟨RX6, "cancel", "(I)I"⟩
abbrev cX6_goes : ByteArray := prog_8_method_38_code
def yX6_goes : MethodName := ⟨RX6, "goes", "(I)V"⟩
abbrev cX6_changed : ByteArray := prog_8_method_39_code
def yX6_changed : MethodName := ⟨RX6, "changed", "(D)D"⟩
abbrev cX6_passes : ByteArray := prog_8_method_40_code
def yX6_passes : MethodName := ⟨RX6, "passes", "()I"⟩
abbrev cX6_pass : ByteArray := prog_8_method_41_code
def yX6_pass : MethodName := ⟨RX6, "pass", "(I)I"⟩
abbrev cX6_type : ByteArray := prog_8_method_42_code
def yX6_type : MethodName := ⟨RX6, "type", "(C)I"⟩
abbrev cX6_clearText : ByteArray := prog_8_method_43_code
def yX6_clearText : MethodName := ⟨RX6, "clearText", "()I"⟩
abbrev cX6_isWord : ByteArray := prog_8_method_44_code
def yX6_isWord : MethodName := ⟨RX6, "isWord", "(ICCCC)Z"⟩
abbrev cX6_word : ByteArray := prog_8_method_45_code
def yX6_word : MethodName := ⟨RX6, "word", "()I"⟩
abbrev cX6_number : ByteArray := prog_8_method_46_code
def yX6_number : MethodName := ⟨RX6, "number", "()I"⟩
abbrev cX6_perform : ByteArray := prog_8_method_47_code
def yX6_perform : MethodName := ⟨RX6, "perform", "()I"⟩
abbrev cX6_undo : ByteArray := prog_8_method_48_code
def yX6_undo : MethodName := ⟨RX6, "undo", "()I"⟩
abbrev cX6_keep : ByteArray := prog_8_method_49_code
def yX6_keep : MethodName := ⟨RX6, "keep", "()I"⟩
abbrev cX6_restore : ByteArray := prog_8_method_50_code
def yX6_restore : MethodName := ⟨RX6, "restore", "()I"⟩
abbrev cX6_lowestTour : ByteArray := prog_8_method_51_code
def yX6_lowestTour : MethodName := ⟨RX6, "lowestTour", "(I)I"⟩
abbrev cX6_guide : ByteArray := prog_8_method_52_code
def yX6_guide : MethodName := ⟨RX6, "guide", "(II)I"⟩
abbrev cX6_tour : ByteArray := prog_8_method_53_code
def yX6_tour : MethodName := ⟨RX6, "tour", "(II)I"⟩
abbrev cX6_rope : ByteArray := prog_8_method_54_code
def yX6_rope : MethodName := ⟨RX6, "rope", "(III)I"⟩
abbrev cX6_nothing : ByteArray := prog_8_method_55_code
def yX6_nothing : MethodName := ⟨RX6, "nothing", "()D"⟩
abbrev cX6_thickness : ByteArray := prog_8_method_56_code
def yX6_thickness : MethodName := ⟨RX6, "thickness", "(I)D"⟩
abbrev cX6_foretold : ByteArray := prog_8_method_57_code
def yX6_foretold : MethodName := ⟨RX6, "foretold", "(II)D"⟩
abbrev cX6_needed : ByteArray := prog_8_method_58_code
def yX6_needed : MethodName := ⟨RX6, "needed", "(I)D"⟩
abbrev cX6_holds : ByteArray := prog_8_method_59_code
def yX6_holds : MethodName := ⟨RX6, "holds", "(II)I"⟩
abbrev cX6_bestGuide : ByteArray := prog_8_method_60_code
def yX6_bestGuide : MethodName := ⟨RX6, "bestGuide", "(I)I"⟩
abbrev cX6_takes : ByteArray := prog_8_method_61_code
def yX6_takes : MethodName := ⟨RX6, "takes", "(II)I"⟩
abbrev cX6_inState : ByteArray := prog_8_method_62_code
def yX6_inState : MethodName := ⟨RX6, "inState", "(I)I"⟩
abbrev cX6_paidAll : ByteArray := prog_8_method_63_code
def yX6_paidAll : MethodName := ⟨RX6, "paidAll", "()I"⟩
abbrev cX6_goneGuests : ByteArray := prog_8_method_64_code
def yX6_goneGuests : MethodName := ⟨RX6, "goneGuests", "()I"⟩
abbrev cX6_count : ByteArray := prog_8_method_65_code
def yX6_count : MethodName := ⟨RX6, "count", "(I)I"⟩
abbrev cX6_temperature : ByteArray := prog_8_method_66_code
def yX6_temperature : MethodName := ⟨RX6, "temperature", "()J"⟩
def RJxe99ae : String := "java/lang/Double"
def TJxe99ae : u_T := fun k => match k with
  | _ => ("", "", "", false)
def tyJxe99ae : Nat → FieldType := fun k => match k with
  | _ => .int
theorem nmJxe99ae : ∀ a, a < 0 → ∀ b, b < 0 → a ≠ b → (TJxe99ae a).2.1 ≠ (TJxe99ae b).2.1 := by decide +kernel
theorem tyJxe99ae_ok : ∀ k, k < 0 → parseFieldDescriptor (TJxe99ae k).2.2.1 = some (tyJxe99ae k) := by decide +kernel
abbrev cJxe99ae_isNaN_b9ae7 : ByteArray := prog_9_method_6_code
def yJxe99ae_isNaN_b9ae7 : MethodName := ⟨RJxe99ae, "isNaN", "(D)Z"⟩
abbrev cJxe99ae_doubleToLongBits_ccdee : ByteArray := prog_9_method_23_code
def yJxe99ae_doubleToLongBits_ccdee : MethodName := ⟨RJxe99ae, "doubleToLongBits", "(D)J"⟩
def RJ0 : String := "java/lang/String"
def TJ0 : u_T := fun k => match k with
  | _ => ("", "", "", false)
def tyJ0 : Nat → FieldType := fun k => match k with
  | _ => .int
theorem nmJ0 : ∀ a, a < 0 → ∀ b, b < 0 → a ≠ b → (TJ0 a).2.1 ≠ (TJ0 b).2.1 := by decide +kernel
theorem tyJ0_ok : ∀ k, k < 0 → parseFieldDescriptor (TJ0 k).2.2.1 = some (tyJ0 k) := by decide +kernel
abbrev cJ0_length_8abf5 : ByteArray := prog_10_method_54_code
def yJ0_length_8abf5 : MethodName := ⟨RJ0, "length", "()I"⟩
abbrev cJ0_charAt_5068e : ByteArray := prog_10_method_56_code
def yJ0_charAt_5068e : MethodName := ⟨RJ0, "charAt", "(I)C"⟩
abbrev cJ0_coder_7d493 : ByteArray := prog_10_method_152_code
def yJ0_coder_7d493 : MethodName := ⟨RJ0, "coder", "()B"⟩
abbrev cJ0_isLatin1_aae02 : ByteArray := prog_10_method_154_code
def yJ0_isLatin1_aae02 : MethodName := ⟨RJ0, "isLatin1", "()Z"⟩
abbrev cJ0_checkIndex_df160 : ByteArray := prog_10_method_155_code
def yJ0_checkIndex_df160 : MethodName := ⟨RJ0, "checkIndex", "(II)V"⟩
def RJ1 : String := "java/lang/StringLatin1"
def TJ1 : u_T := fun k => match k with
  | _ => ("", "", "", false)
def tyJ1 : Nat → FieldType := fun k => match k with
  | _ => .int
theorem nmJ1 : ∀ a, a < 0 → ∀ b, b < 0 → a ≠ b → (TJ1 a).2.1 ≠ (TJ1 b).2.1 := by decide +kernel
theorem tyJ1_ok : ∀ k, k < 0 → parseFieldDescriptor (TJ1 k).2.2.1 = some (tyJ1 k) := by decide +kernel
abbrev cJ1_charAt_3b067 : ByteArray := prog_11_method_2_code
def yJ1_charAt_3b067 : MethodName := ⟨RJ1, "charAt", "([BI)C"⟩
def RJ2 : String := "java/lang/StringUTF16"
def TJ2 : u_T := fun k => match k with
  | _ => ("", "", "", false)
def tyJ2 : Nat → FieldType := fun k => match k with
  | _ => .int
theorem nmJ2 : ∀ a, a < 0 → ∀ b, b < 0 → a ≠ b → (TJ2 a).2.1 ≠ (TJ2 b).2.1 := by decide +kernel
theorem tyJ2_ok : ∀ k, k < 0 → parseFieldDescriptor (TJ2 k).2.2.1 = some (tyJ2 k) := by decide +kernel
abbrev cJ2_getChar_3b067 : ByteArray := prog_12_method_5_code
def yJ2_getChar_3b067 : MethodName := ⟨RJ2, "getChar", "([BI)C"⟩
abbrev cJ2_length_9d52b : ByteArray := prog_12_method_6_code
def yJ2_length_9d52b : MethodName := ⟨RJ2, "length", "([B)I"⟩
abbrev cJ2_charAt_3b067 : ByteArray := prog_12_method_83_code
def yJ2_charAt_3b067 : MethodName := ⟨RJ2, "charAt", "([BI)C"⟩
abbrev cJ2_checkIndex_2214a : ByteArray := prog_12_method_91_code
def yJ2_checkIndex_2214a : MethodName := ⟨RJ2, "checkIndex", "(I[B)V"⟩
def RJ10 : String := "java/lang/System"
def TJ10 : u_T := fun k => match k with
  | _ => ("", "", "", false)
def tyJ10 : Nat → FieldType := fun k => match k with
  | _ => .int
theorem nmJ10 : ∀ a, a < 0 → ∀ b, b < 0 → a ≠ b → (TJ10 a).2.1 ≠ (TJ10 b).2.1 := by decide +kernel
theorem tyJ10_ok : ∀ k, k < 0 → parseFieldDescriptor (TJ10 k).2.2.1 = some (tyJ10 k) := by decide +kernel
def RJ3 : String := "jdk/internal/util/Preconditions"
def TJ3 : u_T := fun k => match k with
  | _ => ("", "", "", false)
def tyJ3 : Nat → FieldType := fun k => match k with
  | _ => .int
theorem nmJ3 : ∀ a, a < 0 → ∀ b, b < 0 → a ≠ b → (TJ3 a).2.1 ≠ (TJ3 b).2.1 := by decide +kernel
theorem tyJ3_ok : ∀ k, k < 0 → parseFieldDescriptor (TJ3 k).2.2.1 = some (tyJ3 k) := by decide +kernel
abbrev cJ3_checkIndex_8e157 : ByteArray := prog_14_method_11_code
def yJ3_checkIndex_8e157 : MethodName := ⟨RJ3, "checkIndex", "(IILjava/util/function/BiFunction;)I"⟩
def RL : String := "GlacierGuidesLaw"
abbrev cL_law : ByteArray := code
def yL_law : MethodName := ⟨RL, "law", "([I)Z"⟩
abbrev vwCl : List vw_C := [(RX0, TX0, 4), (RX1, TX1, 3), (RX2, TX2, 10), (RX3, TX3, 5), (RX4, TX4, 11), (RX5, TX5, 5), (RX6, TX6, 13)]
end
section
def wsL_law_r1 : List Cond := [Cond.classLink RL 7 RX5, Cond.instantiable RX5 5, Cond.initialized RX5, Cond.classLink RL 10 RX6, Cond.instantiable RX6 13, Cond.initialized RX6, Cond.constantLong RL 23 (4294967295), Cond.methodLink RL 9 yX5_init, Cond.instanceMethod yX5_init, Cond.code yX5_init cX5_init 1 none, Cond.methodLink RX5 1 objectInit, Cond.instanceMethod objectInit, Cond.code objectInit ⟨#[0xb1]⟩ 1 none, Cond.classLink RX5 7 RX2, Cond.instantiable RX2 10, Cond.initialized RX2, Cond.fieldLink RX5 10 "GlacierGuides" "now" "LGlacierGuides$State;", Cond.fieldLink RX5 16 "GlacierGuides" "snapshot" "LGlacierGuides$State;", Cond.classLink RX5 19 RX1, Cond.instantiable RX1 3, Cond.initialized RX1, Cond.fieldLink RX5 22 "GlacierGuides" "history" "LGlacierGuides$History;", Cond.classLink RX5 26 RX3, Cond.instantiable RX3 5]
def wsL_law_r2 : List Cond := [Cond.initialized RX3, Cond.fieldLink RX5 29 "GlacierGuides" "text" "LGlacierGuides$Text;", Cond.methodLink RX5 9 yX2_init, Cond.instanceMethod yX2_init, Cond.code yX2_init cX2_init 2 none, Cond.methodLink RX2 3 objectInit, Cond.classLink RX2 9 RX0, Cond.fieldLink RX2 11 "GlacierGuides$State" "guides" "[LGlacierGuides$Guide;", Cond.instantiable RX0 4, Cond.initialized RX0, Cond.arrayClass .double, Cond.fieldLink RX2 18 "GlacierGuides$State" "thicknesses" "[D", Cond.classLink RX2 22 RX4, Cond.fieldLink RX2 24 "GlacierGuides$State" "tours" "[LGlacierGuides$Tour;", Cond.instantiable RX4 11, Cond.initialized RX4, Cond.instanceMethod yX0_init, Cond.code yX0_init cX0_init 1 none, Cond.methodLink RX0 1 objectInit, Cond.methodLink RX2 28 yX4_init, Cond.instanceMethod yX4_init, Cond.code yX4_init cX4_init 1 none, Cond.methodLink RX4 3 objectInit, Cond.arrayClass .int]
def wsL_law_r3 : List Cond := [Cond.fieldLink RX4 9 "GlacierGuides$Tour" "row" "[I", Cond.methodLink RX5 21 yX1_init, Cond.instanceMethod yX1_init, Cond.code yX1_init cX1_init 2 none, Cond.methodLink RX1 3 objectInit, Cond.classLink RX1 9 RX2, Cond.fieldLink RX1 11 "GlacierGuides$History" "states" "[LGlacierGuides$State;", Cond.methodLink RX1 17 yX2_init, Cond.methodLink RX5 28 yX3_init, Cond.instanceMethod yX3_init, Cond.code yX3_init cX3_init 1 none, Cond.methodLink RX3 3 objectInit, Cond.arrayClass .char, Cond.fieldLink RX3 9 "GlacierGuides$Text" "characters" "[C", Cond.methodLink RL 12 yX6_init, Cond.instanceMethod yX6_init, Cond.code yX6_init cX6_init 1 none, Cond.methodLink RX6 1 objectInit, Cond.fieldLink RX6 7 "GlacierGuidesModel" "now" "[I", Cond.fieldLink RX6 13 "GlacierGuidesModel" "history" "[I", Cond.fieldLink RX6 16 "GlacierGuidesModel" "slot" "[I", Cond.fieldLink RX6 19 "GlacierGuidesModel" "real" "[D", Cond.fieldLink RX6 23 "GlacierGuidesModel" "realHistory" "[D", Cond.fieldLink RX6 26 "GlacierGuidesModel" "realSlot" "[D"]
def wsL_law_r4 : List Cond := [Cond.fieldLink RX6 29 "GlacierGuidesModel" "text" "[C", Cond.methodLink RL 13 yX5_addGuide, Cond.instanceMethod yX5_addGuide, Cond.selects RX5 yX5_addGuide yX5_addGuide, Cond.code yX5_addGuide cX5_addGuide 4 (some .int), Cond.fieldLink RX5 40 "GlacierGuides$State" "guideCount" "I", Cond.fieldLink RX5 48 "GlacierGuides$State" "guides" "[LGlacierGuides$Guide;", Cond.methodLink RX5 33 yX5_isClass, Cond.static yX5_isClass, Cond.code yX5_isClass cX5_isClass 1 (some .boolean), Cond.methodLink RX5 37 yX5_isLastDay, Cond.static yX5_isLastDay, Cond.code yX5_isLastDay cX5_isLastDay 1 (some .boolean), Cond.methodLink RX5 44 yX1_record, Cond.instanceMethod yX1_record, Cond.selects RX1 yX1_record yX1_record, Cond.code yX1_record cX1_record 2 none, Cond.fieldLink RX1 18 "GlacierGuides$History" "size" "I", Cond.fieldLink RX1 22 "GlacierGuides$History" "oldest" "I", Cond.methodLink RX1 25 yX2_copyFrom, Cond.instanceMethod yX2_copyFrom, Cond.selects RX2 yX2_copyFrom yX2_copyFrom, Cond.code yX2_copyFrom cX2_copyFrom 3 none, Cond.fieldLink RX2 29 "GlacierGuides$State" "guideCount" "I"]
def wsL_law_r5 : List Cond := [Cond.methodLink RX2 37 arraycopyName, Cond.native arraycopyName, Cond.static arraycopyName, Cond.initialized "java/lang/System", Cond.fieldLink RX2 43 "GlacierGuides$State" "tourCount" "I", Cond.fieldLink RX2 49 "GlacierGuides$State" "bridgeCount" "I", Cond.fieldLink RX2 52 "GlacierGuides$State" "day" "I", Cond.fieldLink RX2 55 "GlacierGuides$State" "degreeBits" "J", Cond.fieldLink RX2 59 "GlacierGuides$State" "degrees" "D", Cond.fieldLink RX2 63 "GlacierGuides$State" "refunded" "I", Cond.methodLink RX2 33 yX0_copyFrom, Cond.instanceMethod yX0_copyFrom, Cond.selects RX0 yX0_copyFrom yX0_copyFrom, Cond.code yX0_copyFrom cX0_copyFrom 2 none, Cond.fieldLink RX0 20 "GlacierGuides$Guide" "kind" "I", Cond.fieldLink RX0 23 "GlacierGuides$Guide" "until" "I", Cond.fieldLink RX0 13 "GlacierGuides$Guide" "toursLed" "I", Cond.fieldLink RX0 17 "GlacierGuides$Guide" "guestsLed" "I", Cond.methodLink RX0 7 yX0_certify, Cond.instanceMethod yX0_certify, Cond.selects RX0 yX0_certify yX0_certify, Cond.code yX0_certify cX0_certify 3 none, Cond.methodLink RX2 46 yX4_copyFrom, Cond.instanceMethod yX4_copyFrom]
def wsL_law_r6 : List Cond := [Cond.selects RX4 yX4_copyFrom yX4_copyFrom, Cond.code yX4_copyFrom cX4_copyFrom 2 none, Cond.methodLink RX4 51 arraycopyName, Cond.fieldLink RX4 15 "GlacierGuides$Tour" "day" "I", Cond.fieldLink RX4 19 "GlacierGuides$Tour" "slope" "D", Cond.fieldLink RX4 27 "GlacierGuides$Tour" "base" "I", Cond.fieldLink RX4 30 "GlacierGuides$Tour" "price" "I", Cond.fieldLink RX4 33 "GlacierGuides$Tour" "bridges" "I", Cond.fieldLink RX4 36 "GlacierGuides$Tour" "guests" "I", Cond.fieldLink RX4 39 "GlacierGuides$Tour" "guides" "I", Cond.fieldLink RX4 42 "GlacierGuides$Tour" "paid" "I", Cond.fieldLink RX4 45 "GlacierGuides$Tour" "state" "I", Cond.fieldLink RX4 48 "GlacierGuides$Tour" "cause" "I", Cond.methodLink RX5 52 yX0_begin, Cond.instanceMethod yX0_begin, Cond.selects RX0 yX0_begin yX0_begin, Cond.code yX0_begin cX0_begin 3 none, Cond.methodLink RL 17 yX6_addGuide, Cond.instanceMethod yX6_addGuide, Cond.selects RX6 yX6_addGuide yX6_addGuide, Cond.code yX6_addGuide cX6_addGuide 4 (some .int), Cond.methodLink RX6 45 yX6_isCertificate, Cond.static yX6_isCertificate, Cond.code yX6_isCertificate cX6_isCertificate 2 (some .boolean)]
def wsL_law_r7 : List Cond := [Cond.methodLink RX6 37 yX6_in, Cond.static yX6_in, Cond.code yX6_in cX6_in 3 (some .boolean), Cond.methodLink RX6 49 yX6_record, Cond.instanceMethod yX6_record, Cond.selects RX6 yX6_record yX6_record, Cond.code yX6_record cX6_record 2 none, Cond.fieldLink RX6 33 "GlacierGuidesModel" "kept" "I", Cond.methodLink RL 18 yX5_renew, Cond.instanceMethod yX5_renew, Cond.selects RX5 yX5_renew yX5_renew, Cond.code yX5_renew cX5_renew 6 (some .int), Cond.fieldLink RX5 62 "GlacierGuides$Guide" "kind" "I", Cond.fieldLink RX5 65 "GlacierGuides$Guide" "until" "I", Cond.methodLink RX5 58 yX2_guideAt, Cond.instanceMethod yX2_guideAt, Cond.selects RX2 yX2_guideAt yX2_guideAt, Cond.code yX2_guideAt cX2_guideAt 2 (some (.object "GlacierGuides$Guide")), Cond.methodLink RX5 68 yX0_certify, Cond.methodLink RL 22 yX6_renew, Cond.instanceMethod yX6_renew, Cond.selects RX6 yX6_renew yX6_renew, Cond.code yX6_renew cX6_renew 5 (some .int), Cond.methodLink RX6 52 yX6_noGuide]
def wsL_law_r8 : List Cond := [Cond.instanceMethod yX6_noGuide, Cond.selects RX6 yX6_noGuide yX6_noGuide, Cond.code yX6_noGuide cX6_noGuide 2 (some .boolean), Cond.methodLink RX6 56 yX6_ofGuide, Cond.instanceMethod yX6_ofGuide, Cond.selects RX6 yX6_ofGuide yX6_ofGuide, Cond.code yX6_ofGuide cX6_ofGuide 3 (some .int), Cond.methodLink RL 25 yX5_addBridge, Cond.instanceMethod yX5_addBridge, Cond.selects RX5 yX5_addBridge yX5_addBridge, Cond.code yX5_addBridge cX5_addBridge 4 (some .int), Cond.constantLong RX5 71 (4647503709213818880), Cond.fieldLink RX5 77 "GlacierGuides$State" "bridgeCount" "I", Cond.fieldLink RX5 80 "GlacierGuides$State" "thicknesses" "[D", Cond.methodLink RX5 73 yX5_isFromZeroTo, Cond.static yX5_isFromZeroTo, Cond.code yX5_isFromZeroTo cX5_isFromZeroTo 4 (some .boolean), Cond.methodLink RX5 84 yX5_numberOf, Cond.static yX5_numberOf, Cond.code yX5_numberOf cX5_numberOf 7 (some .double), Cond.constantLong RX5 300 (4503599627370495), Cond.constantLong RX5 306 (4503599627370496), Cond.methodLink RX5 302 yX5_halved, Cond.static yX5_halved]
def wsL_law_r9 : List Cond := [Cond.code yX5_halved cX5_halved 6 (some .double), Cond.constantDouble RX5 308 (4602678819172646912), Cond.methodLink RL 29 yX6_addBridge, Cond.instanceMethod yX6_addBridge, Cond.selects RX6 yX6_addBridge yX6_addBridge, Cond.code yX6_addBridge cX6_addBridge 3 (some .int), Cond.constantDouble RX6 67 (4647503709213818880), Cond.methodLink RX6 61 ⟨"java/lang/Double", "longBitsToDouble", "(J)D"⟩, Cond.native ⟨"java/lang/Double", "longBitsToDouble", "(J)D"⟩, Cond.static ⟨"java/lang/Double", "longBitsToDouble", "(J)D"⟩, Cond.initialized "java/lang/Double", Cond.methodLink RX6 69 yX6_isUpTo, Cond.static yX6_isUpTo, Cond.code yX6_isUpTo cX6_isUpTo 6 (some .boolean), Cond.constantLong RX6 59 (9218868437227405312), Cond.methodLink RL 30 yX5_setTemperature, Cond.instanceMethod yX5_setTemperature, Cond.selects RX5 yX5_setTemperature yX5_setTemperature, Cond.code yX5_setTemperature cX5_setTemperature 5 (some .int), Cond.fieldLink RX5 92 "GlacierGuides$State" "degrees" "D", Cond.fieldLink RX5 96 "GlacierGuides$State" "degreeBits" "J", Cond.methodLink RX5 88 yX5_isTemperature, Cond.static yX5_isTemperature, Cond.code yX5_isTemperature cX5_isTemperature 2 (some .boolean)]
def wsL_law_r10 : List Cond := [Cond.constantLong RX5 294 (4630826316843712512), Cond.constantLong RX5 296 (9223372036854775807), Cond.constantLong RX5 298 (4629137466983448576), Cond.methodLink RL 33 yX6_setTemperature, Cond.instanceMethod yX6_setTemperature, Cond.selects RX6 yX6_setTemperature yX6_setTemperature, Cond.code yX6_setTemperature cX6_setTemperature 6 (some .int), Cond.constantLong RX6 73 (9223372036854775807), Cond.constantDouble RX6 75 (13854198353698488320), Cond.constantDouble RX6 77 (4629137466983448576), Cond.methodLink RL 34 yX5_addTour, Cond.instanceMethod yX5_addTour, Cond.selects RX5 yX5_addTour yX5_addTour, Cond.code yX5_addTour cX5_addTour 7 (some .int), Cond.fieldLink RX5 100 "GlacierGuides$State" "day" "I", Cond.constantLong RX5 103 (4633641066610819072), Cond.fieldLink RX5 108 "GlacierGuides$State" "tourCount" "I", Cond.fieldLink RX5 111 "GlacierGuides$State" "tours" "[LGlacierGuides$Tour;", Cond.methodLink RX5 105 yX2_hasBridges, Cond.instanceMethod yX2_hasBridges, Cond.selects RX2 yX2_hasBridges yX2_hasBridges, Cond.code yX2_hasBridges cX2_hasBridges 2 (some .boolean), Cond.methodLink RX5 115 yX4_begin, Cond.instanceMethod yX4_begin]
def wsL_law_r11 : List Cond := [Cond.selects RX4 yX4_begin yX4_begin, Cond.code yX4_begin cX4_begin 6 none, Cond.methodLink RX4 23 yX4_baseOf, Cond.static yX4_baseOf, Cond.code yX4_baseOf cX4_baseOf 2 (some .int), Cond.constantDouble RX4 57 (4624633867356078080), Cond.constantDouble RX4 59 (4629137466983448576), Cond.constantDouble RX4 61 (4631530004285489152), Cond.methodLink RL 38 yX6_addTour, Cond.instanceMethod yX6_addTour, Cond.selects RX6 yX6_addTour yX6_addTour, Cond.code yX6_addTour cX6_addTour 8 (some .int), Cond.constantDouble RX6 108 (4633641066610819072), Cond.methodLink RX6 110 yX6_to, Cond.instanceMethod yX6_to, Cond.selects RX6 yX6_to yX6_to, Cond.code yX6_to cX6_to 4 none, Cond.methodLink RL 39 yX5_book, Cond.instanceMethod yX5_book, Cond.selects RX5 yX5_book yX5_book, Cond.code yX5_book cX5_book 5 (some .int), Cond.fieldLink RX5 127 "GlacierGuides$Tour" "state" "I", Cond.fieldLink RX5 130 "GlacierGuides$Tour" "guests" "I", Cond.fieldLink RX5 133 "GlacierGuides$Tour" "price" "I"]
def wsL_law_r12 : List Cond := [Cond.fieldLink RX5 136 "GlacierGuides$Tour" "paid" "I", Cond.methodLink RX5 120 yX2_tourAt, Cond.instanceMethod yX2_tourAt, Cond.selects RX2 yX2_tourAt yX2_tourAt, Cond.code yX2_tourAt cX2_tourAt 2 (some (.object "GlacierGuides$Tour")), Cond.methodLink RX5 124 yX5_isGuests, Cond.static yX5_isGuests, Cond.code yX5_isGuests cX5_isGuests 1 (some .boolean), Cond.methodLink RL 42 yX6_book, Cond.instanceMethod yX6_book, Cond.selects RX6 yX6_book yX6_book, Cond.code yX6_book cX6_book 4 (some .int), Cond.methodLink RX6 114 yX6_noTour, Cond.instanceMethod yX6_noTour, Cond.selects RX6 yX6_noTour yX6_noTour, Cond.code yX6_noTour cX6_noTour 2 (some .boolean), Cond.methodLink RX6 117 yX6_isOpen, Cond.instanceMethod yX6_isOpen, Cond.selects RX6 yX6_isOpen yX6_isOpen, Cond.code yX6_isOpen cX6_isOpen 2 (some .boolean), Cond.methodLink RX6 41 yX6_of, Cond.instanceMethod yX6_of, Cond.selects RX6 yX6_of yX6_of, Cond.code yX6_of cX6_of 3 (some .int)]
def wsL_law_r13 : List Cond := [Cond.methodLink RL 43 yX5_leave, Cond.instanceMethod yX5_leave, Cond.selects RX5 yX5_leave yX5_leave, Cond.code yX5_leave cX5_leave 5 (some .int), Cond.methodLink RX5 139 yX4_refundFor, Cond.instanceMethod yX4_refundFor, Cond.selects RX4 yX4_refundFor yX4_refundFor, Cond.code yX4_refundFor cX4_refundFor 3 (some .int), Cond.methodLink RX4 63 yX4_shareAt, Cond.static yX4_shareAt, Cond.code yX4_shareAt cX4_shareAt 1 (some .double), Cond.constantDouble RX4 67 (4604930618986332160), Cond.constantDouble RX4 69 (4602678819172646912), Cond.methodLink RX5 143 yX2_payBack, Cond.instanceMethod yX2_payBack, Cond.selects RX2 yX2_payBack yX2_payBack, Cond.code yX2_payBack cX2_payBack 3 none, Cond.fieldLink RX2 149 "GlacierGuides$Tour" "paid" "I", Cond.methodLink RL 46 yX6_leave, Cond.instanceMethod yX6_leave, Cond.selects RX6 yX6_leave yX6_leave, Cond.code yX6_leave cX6_leave 7 (some .int), Cond.constantDouble RX6 120 (4604930618986332160), Cond.constantDouble RX6 122 (4602678819172646912)]
def wsL_law_r14 : List Cond := [Cond.methodLink RX6 124 yX6_refunds, Cond.instanceMethod yX6_refunds, Cond.selects RX6 yX6_refunds yX6_refunds, Cond.code yX6_refunds cX6_refunds 3 none, Cond.methodLink RL 47 yX5_lead, Cond.instanceMethod yX5_lead, Cond.selects RX5 yX5_lead yX5_lead, Cond.code yX5_lead cX5_lead 4 (some .int), Cond.fieldLink RX5 151 "GlacierGuides$Tour" "guides" "I", Cond.methodLink RX5 147 yX2_mayLead, Cond.instanceMethod yX2_mayLead, Cond.selects RX2 yX2_mayLead yX2_mayLead, Cond.code yX2_mayLead cX2_mayLead 3 (some .boolean), Cond.fieldLink RX2 66 "GlacierGuides$Tour" "state" "I", Cond.fieldLink RX2 69 "GlacierGuides$Tour" "day" "I", Cond.methodLink RX2 70 yX0_isValidOn, Cond.instanceMethod yX0_isValidOn, Cond.selects RX0 yX0_isValidOn yX0_isValidOn, Cond.code yX0_isValidOn cX0_isValidOn 2 (some .boolean), Cond.methodLink RX2 74 yX2_isBusyOn, Cond.instanceMethod yX2_isBusyOn, Cond.selects RX2 yX2_isBusyOn yX2_isBusyOn, Cond.code yX2_isBusyOn cX2_isBusyOn 4 (some .boolean), Cond.methodLink RX2 78 yX4_hasInRow]
def wsL_law_r15 : List Cond := [Cond.instanceMethod yX4_hasInRow, Cond.selects RX4 yX4_hasInRow yX4_hasInRow, Cond.code yX4_hasInRow cX4_hasInRow 3 (some .boolean), Cond.methodLink RX5 153 yX4_addToRow, Cond.instanceMethod yX4_addToRow, Cond.selects RX4 yX4_addToRow yX4_addToRow, Cond.code yX4_addToRow cX4_addToRow 2 none, Cond.methodLink RX5 157 yX2_ratioOf, Cond.instanceMethod yX2_ratioOf, Cond.selects RX2 yX2_ratioOf yX2_ratioOf, Cond.code yX2_ratioOf cX2_ratioOf 4 (some .int), Cond.fieldLink RX2 81 "GlacierGuides$Tour" "base" "I", Cond.fieldLink RX2 84 "GlacierGuides$Guide" "kind" "I", Cond.methodLink RL 50 yX6_lead, Cond.instanceMethod yX6_lead, Cond.selects RX6 yX6_lead yX6_lead, Cond.code yX6_lead cX6_lead 3 (some .int), Cond.methodLink RX6 134 yX6_mayLead, Cond.instanceMethod yX6_mayLead, Cond.selects RX6 yX6_mayLead yX6_mayLead, Cond.code yX6_mayLead cX6_mayLead 3 (some .boolean), Cond.methodLink RX6 131 yX6_isBusy, Cond.instanceMethod yX6_isBusy, Cond.selects RX6 yX6_isBusy yX6_isBusy]
def wsL_law_r16 : List Cond := [Cond.code yX6_isBusy cX6_isBusy 4 (some .boolean), Cond.methodLink RX6 128 yX6_leads, Cond.instanceMethod yX6_leads, Cond.selects RX6 yX6_leads yX6_leads, Cond.code yX6_leads cX6_leads 4 (some .boolean), Cond.methodLink RX6 87 yX6_guideOn, Cond.instanceMethod yX6_guideOn, Cond.selects RX6 yX6_guideOn yX6_guideOn, Cond.code yX6_guideOn cX6_guideOn 3 (some .int), Cond.methodLink RX6 90 yX6_ratio, Cond.instanceMethod yX6_ratio, Cond.selects RX6 yX6_ratio yX6_ratio, Cond.code yX6_ratio cX6_ratio 4 (some .int), Cond.methodLink RX6 83 yX6_baseOf, Cond.instanceMethod yX6_baseOf, Cond.selects RX6 yX6_baseOf yX6_baseOf, Cond.code yX6_baseOf cX6_baseOf 4 (some .int), Cond.constantDouble RX6 79 (4624633867356078080), Cond.constantDouble RX6 81 (4631530004285489152), Cond.methodLink RL 51 yX5_release, Cond.instanceMethod yX5_release, Cond.selects RX5 yX5_release yX5_release, Cond.code yX5_release cX5_release 4 (some .int), Cond.methodLink RX5 161 yX4_hasInRow]
def wsL_law_r17 : List Cond := [Cond.methodLink RX5 164 yX4_takeFromRow, Cond.instanceMethod yX4_takeFromRow, Cond.selects RX4 yX4_takeFromRow yX4_takeFromRow, Cond.code yX4_takeFromRow cX4_takeFromRow 4 none, Cond.methodLink RX5 167 yX2_leftAfter, Cond.instanceMethod yX2_leftAfter, Cond.selects RX2 yX2_leftAfter yX2_leftAfter, Cond.code yX2_leftAfter cX2_leftAfter 5 (some .int), Cond.fieldLink RX2 87 "GlacierGuides$Tour" "guests" "I", Cond.fieldLink RX2 90 "GlacierGuides$Tour" "row" "[I", Cond.methodLink RX2 94 yX2_ratioOf, Cond.methodLink RL 54 yX6_release, Cond.instanceMethod yX6_release, Cond.selects RX6 yX6_release yX6_release, Cond.code yX6_release cX6_release 5 (some .int), Cond.methodLink RX6 105 yX6_leftOver, Cond.instanceMethod yX6_leftOver, Cond.selects RX6 yX6_leftOver yX6_leftOver, Cond.code yX6_leftOver cX6_leftOver 2 (some .int), Cond.methodLink RX6 93 yX6_onRope, Cond.instanceMethod yX6_onRope, Cond.selects RX6 yX6_onRope yX6_onRope, Cond.code yX6_onRope cX6_onRope 6 (some .int), Cond.methodLink RL 55 yX5_merge]
def wsL_law_r18 : List Cond := [Cond.instanceMethod yX5_merge, Cond.selects RX5 yX5_merge yX5_merge, Cond.code yX5_merge cX5_merge 7 (some .int), Cond.methodLink RX5 171 yX4_fitsInto, Cond.instanceMethod yX4_fitsInto, Cond.selects RX4 yX4_fitsInto yX4_fitsInto, Cond.code yX4_fitsInto cX4_fitsInto 2 (some .boolean), Cond.methodLink RX5 175 yX4_moveInto, Cond.instanceMethod yX4_moveInto, Cond.selects RX4 yX4_moveInto yX4_moveInto, Cond.code yX4_moveInto cX4_moveInto 3 none, Cond.methodLink RX4 71 yX4_addToRow, Cond.methodLink RL 58 yX6_merge, Cond.instanceMethod yX6_merge, Cond.selects RX6 yX6_merge yX6_merge, Cond.code yX6_merge cX6_merge 6 (some .int), Cond.methodLink RX6 137 yX6_mayMerge, Cond.instanceMethod yX6_mayMerge, Cond.selects RX6 yX6_mayMerge yX6_mayMerge, Cond.code yX6_mayMerge cX6_mayMerge 5 (some .boolean), Cond.methodLink RL 59 yX5_cancel, Cond.instanceMethod yX5_cancel, Cond.selects RX5 yX5_cancel yX5_cancel, Cond.code yX5_cancel cX5_cancel 3 (some .int)]
def wsL_law_r19 : List Cond := [Cond.methodLink RX5 179 yX2_callOff, Cond.instanceMethod yX2_callOff, Cond.selects RX2 yX2_callOff yX2_callOff, Cond.code yX2_callOff cX2_callOff 4 (some .int), Cond.fieldLink RX2 152 "GlacierGuides$Tour" "cause" "I", Cond.methodLink RX2 155 yX2_payBack, Cond.methodLink RL 63 yX6_cancel, Cond.instanceMethod yX6_cancel, Cond.selects RX6 yX6_cancel yX6_cancel, Cond.code yX6_cancel cX6_cancel 2 (some .int), Cond.methodLink RX6 140 yX6_cancels, Cond.instanceMethod yX6_cancels, Cond.selects RX6 yX6_cancels yX6_cancels, Cond.code yX6_cancels cX6_cancels 4 (some .int), Cond.methodLink RL 64 yX5_pass, Cond.instanceMethod yX5_pass, Cond.selects RX5 yX5_pass yX5_pass, Cond.code yX5_pass cX5_pass 4 (some .int), Cond.methodLink RX5 182 yX2_passDay, Cond.instanceMethod yX2_passDay, Cond.selects RX2 yX2_passDay yX2_passDay, Cond.code yX2_passDay cX2_passDay 5 (some .int), Cond.methodLink RX2 128 yX2_causeAgainst, Cond.instanceMethod yX2_causeAgainst]
def wsL_law_r20 : List Cond := [Cond.selects RX2 yX2_causeAgainst yX2_causeAgainst, Cond.code yX2_causeAgainst cX2_causeAgainst 2 (some .int), Cond.fieldLink RX2 102 "GlacierGuides$Tour" "guides" "I", Cond.methodLink RX2 121 yX2_allBridgesHold, Cond.instanceMethod yX2_allBridgesHold, Cond.selects RX2 yX2_allBridgesHold yX2_allBridgesHold, Cond.code yX2_allBridgesHold cX2_allBridgesHold 5 (some .boolean), Cond.fieldLink RX2 112 "GlacierGuides$Tour" "bridges" "I", Cond.methodLink RX2 108 yX2_neededBy, Cond.instanceMethod yX2_neededBy, Cond.selects RX2 yX2_neededBy yX2_neededBy, Cond.code yX2_neededBy cX2_neededBy 6 (some .double), Cond.constantDouble RX2 104 (4624633867356078080), Cond.constantDouble RX2 106 (4612811918334230528), Cond.methodLink RX2 98 yX2_leftAfter, Cond.methodLink RX2 125 yX2_allGuidesAreValid, Cond.instanceMethod yX2_allGuidesAreValid, Cond.selects RX2 yX2_allGuidesAreValid yX2_allGuidesAreValid, Cond.code yX2_allGuidesAreValid cX2_allGuidesAreValid 3 (some .boolean), Cond.methodLink RX2 132 yX2_letGo, Cond.instanceMethod yX2_letGo, Cond.selects RX2 yX2_letGo yX2_letGo, Cond.code yX2_letGo cX2_letGo 3 none, Cond.methodLink RX2 142 yX2_guestsOnRope]
def wsL_law_r21 : List Cond := [Cond.instanceMethod yX2_guestsOnRope, Cond.selects RX2 yX2_guestsOnRope yX2_guestsOnRope, Cond.code yX2_guestsOnRope cX2_guestsOnRope 3 (some .int), Cond.methodLink RX2 145 yX0_haveLed, Cond.instanceMethod yX0_haveLed, Cond.selects RX0 yX0_haveLed yX0_haveLed, Cond.code yX0_haveLed cX0_haveLed 2 none, Cond.methodLink RX2 135 yX2_callOff, Cond.methodLink RX2 138 yX2_dayLater, Cond.instanceMethod yX2_dayLater, Cond.selects RX2 yX2_dayLater yX2_dayLater, Cond.code yX2_dayLater cX2_dayLater 5 (some .double), Cond.constantDouble RX2 115 (4609434218613702656), Cond.constantDouble RX2 117 (4598175219545276416), Cond.constantDouble RX2 119 (4647503709213818880), Cond.methodLink RL 67 yX6_pass, Cond.instanceMethod yX6_pass, Cond.selects RX6 yX6_pass yX6_pass, Cond.code yX6_pass cX6_pass 4 (some .int), Cond.methodLink RX6 158 yX6_passes, Cond.instanceMethod yX6_passes, Cond.selects RX6 yX6_passes yX6_passes, Cond.code yX6_passes cX6_passes 5 (some .int), Cond.methodLink RX6 147 yX6_causeOf]
def wsL_law_r22 : List Cond := [Cond.instanceMethod yX6_causeOf, Cond.selects RX6 yX6_causeOf yX6_causeOf, Cond.code yX6_causeOf cX6_causeOf 4 (some .int), Cond.methodLink RX6 102 yX6_isHeld, Cond.instanceMethod yX6_isHeld, Cond.selects RX6 yX6_isHeld yX6_isHeld, Cond.code yX6_isHeld cX6_isHeld 3 (some .boolean), Cond.methodLink RX6 98 yX6_neededBy, Cond.instanceMethod yX6_neededBy, Cond.selects RX6 yX6_neededBy yX6_neededBy, Cond.code yX6_neededBy cX6_neededBy 4 (some .double), Cond.constantDouble RX6 96 (4612811918334230528), Cond.methodLink RX6 150 yX6_goes, Cond.instanceMethod yX6_goes, Cond.selects RX6 yX6_goes yX6_goes, Cond.code yX6_goes cX6_goes 4 none, Cond.methodLink RX6 154 yX6_changed, Cond.instanceMethod yX6_changed, Cond.selects RX6 yX6_changed yX6_changed, Cond.code yX6_changed cX6_changed 7 (some .double), Cond.constantDouble RX6 143 (4609434218613702656), Cond.constantDouble RX6 145 (4598175219545276416), Cond.methodLink RL 68 yX5_type, Cond.instanceMethod yX5_type]
def wsL_law_r23 : List Cond := [Cond.selects RX5 yX5_type yX5_type, Cond.code yX5_type cX5_type 2 (some .int), Cond.fieldLink RX5 186 "GlacierGuides$Text" "length" "I", Cond.methodLink RX5 189 yX3_append, Cond.instanceMethod yX3_append, Cond.selects RX3 yX3_append yX3_append, Cond.code yX3_append cX3_append 2 none, Cond.fieldLink RX3 15 "GlacierGuides$Text" "length" "I", Cond.methodLink RL 72 yX6_type, Cond.instanceMethod yX6_type, Cond.selects RX6 yX6_type yX6_type, Cond.code yX6_type cX6_type 2 (some .int), Cond.fieldLink RX6 162 "GlacierGuidesModel" "typed" "I", Cond.methodLink RL 73 yX5_clearText, Cond.instanceMethod yX5_clearText, Cond.selects RX5 yX5_clearText yX5_clearText, Cond.code yX5_clearText cX5_clearText 2 (some .int), Cond.methodLink RL 77 yX6_clearText, Cond.instanceMethod yX6_clearText, Cond.selects RX6 yX6_clearText yX6_clearText, Cond.code yX6_clearText cX6_clearText 2 (some .int), Cond.methodLink RL 78 yX5_perform, Cond.instanceMethod yX5_perform, Cond.selects RX5 yX5_perform yX5_perform]
def wsL_law_r24 : List Cond := [Cond.code yX5_perform cX5_perform 2 (some .int), Cond.fieldLink RX5 196 "GlacierGuides$Text" "command" "I", Cond.fieldLink RX5 199 "GlacierGuides$Text" "first" "I", Cond.fieldLink RX5 202 "GlacierGuides$Text" "second" "I", Cond.methodLink RX5 193 yX3_read, Cond.instanceMethod yX3_read, Cond.selects RX3 yX3_read yX3_read, Cond.code yX3_read cX3_read 5 (some .int), Cond.fieldLink RX3 27 "GlacierGuides$Text" "command" "I", Cond.methodLink RX3 19 yX3_wordLength, Cond.instanceMethod yX3_wordLength, Cond.selects RX3 yX3_wordLength yX3_wordLength, Cond.code yX3_wordLength cX3_wordLength 2 (some .int), Cond.methodLink RX3 23 yX3_commandOf, Cond.instanceMethod yX3_commandOf, Cond.selects RX3 yX3_commandOf yX3_commandOf, Cond.code yX3_commandOf cX3_commandOf 2 (some .int), Cond.methodLink RX3 46 yX3_isWord, Cond.instanceMethod yX3_isWord, Cond.selects RX3 yX3_isWord yX3_isWord, Cond.code yX3_isWord cX3_isWord 4 (some .boolean), Cond.methodLink RX3 58 yJ0_length_8abf5, Cond.instanceMethod yJ0_length_8abf5, Cond.selects RJ0 yJ0_length_8abf5 yJ0_length_8abf5]
def wsL_law_r25 : List Cond := [Cond.initialized RJ0, Cond.code yJ0_length_8abf5 cJ0_length_8abf5 1 (some .int), Cond.fieldLink RJ0 9 "java/lang/String" "value" "[B", Cond.methodLink RJ0 335 yJ0_coder_7d493, Cond.instanceMethod yJ0_coder_7d493, Cond.selects RJ0 yJ0_coder_7d493 yJ0_coder_7d493, Cond.code yJ0_coder_7d493 cJ0_coder_7d493 1 (some .byte), Cond.fieldLink RJ0 38 "java/lang/String" "COMPACT_STRINGS" "Z", Cond.fieldLink RJ0 15 "java/lang/String" "coder" "B", Cond.methodLink RX3 62 yJ0_charAt_5068e, Cond.instanceMethod yJ0_charAt_5068e, Cond.selects RJ0 yJ0_charAt_5068e yJ0_charAt_5068e, Cond.code yJ0_charAt_5068e cJ0_charAt_5068e 2 (some .char), Cond.methodLink RJ0 492 yJ0_isLatin1_aae02, Cond.instanceMethod yJ0_isLatin1_aae02, Cond.selects RJ0 yJ0_isLatin1_aae02 yJ0_isLatin1_aae02, Cond.code yJ0_isLatin1_aae02 cJ0_isLatin1_aae02 1 (some .boolean), Cond.methodLink RJ0 495 yJ1_charAt_3b067, Cond.static yJ1_charAt_3b067, Cond.initialized RJ1, Cond.code yJ1_charAt_3b067 cJ1_charAt_3b067 2 (some .char), Cond.methodLink RJ1 9 yJ0_checkIndex_df160, Cond.static yJ0_checkIndex_df160, Cond.code yJ0_checkIndex_df160 cJ0_checkIndex_df160 2 none]
def wsL_law_r26 : List Cond := [Cond.fieldLink RJ0 1053 "jdk/internal/util/Preconditions" "SIOOBE_FORMATTER" "Ljava/util/function/BiFunction;", Cond.methodLink RJ0 1059 yJ3_checkIndex_8e157, Cond.static yJ3_checkIndex_8e157, Cond.initialized RJ3, Cond.code yJ3_checkIndex_8e157 cJ3_checkIndex_8e157 3 (some .int), Cond.methodLink RJ0 498 yJ2_charAt_3b067, Cond.static yJ2_charAt_3b067, Cond.initialized RJ2, Cond.code yJ2_charAt_3b067 cJ2_charAt_3b067 2 (some .char), Cond.methodLink RJ2 67 yJ2_checkIndex_2214a, Cond.static yJ2_checkIndex_2214a, Cond.code yJ2_checkIndex_2214a cJ2_checkIndex_2214a 2 none, Cond.methodLink RJ2 48 yJ2_length_9d52b, Cond.static yJ2_length_9d52b, Cond.code yJ2_length_9d52b cJ2_length_9d52b 1 (some .int), Cond.methodLink RJ2 414 yJ0_checkIndex_df160, Cond.methodLink RJ2 71 yJ2_getChar_3b067, Cond.static yJ2_getChar_3b067, Cond.code yJ2_getChar_3b067 cJ2_getChar_3b067 2 (some .char), Cond.fieldLink RJ2 44 "java/lang/StringUTF16" "$assertionsDisabled" "Z", Cond.fieldLink RJ2 59 "java/lang/StringUTF16" "HI_BYTE_SHIFT" "I", Cond.fieldLink RJ2 63 "java/lang/StringUTF16" "LO_BYTE_SHIFT" "I", Cond.methodLink RX3 30 yX3_isBlankAt, Cond.instanceMethod yX3_isBlankAt]
def wsL_law_r27 : List Cond := [Cond.selects RX3 yX3_isBlankAt yX3_isBlankAt, Cond.code yX3_isBlankAt cX3_isBlankAt 2 (some .boolean), Cond.methodLink RX3 34 yX3_isDigitAt, Cond.instanceMethod yX3_isDigitAt, Cond.selects RX3 yX3_isDigitAt yX3_isDigitAt, Cond.code yX3_isDigitAt cX3_isDigitAt 2 (some .boolean), Cond.methodLink RX3 37 yX3_digitsAt, Cond.instanceMethod yX3_digitsAt, Cond.selects RX3 yX3_digitsAt yX3_digitsAt, Cond.code yX3_digitsAt cX3_digitsAt 2 (some .int), Cond.methodLink RX3 40 yX3_keepNumber, Cond.instanceMethod yX3_keepNumber, Cond.selects RX3 yX3_keepNumber yX3_keepNumber, Cond.code yX3_keepNumber cX3_keepNumber 5 none, Cond.fieldLink RX3 66 "GlacierGuides$Text" "first" "I", Cond.fieldLink RX3 69 "GlacierGuides$Text" "second" "I", Cond.methodLink RX5 205 yX5_book, Cond.methodLink RX5 208 yX5_leave, Cond.methodLink RX5 211 yX5_merge, Cond.methodLink RX5 214 yX5_lead, Cond.methodLink RX5 217 yX5_cancel, Cond.methodLink RL 81 yX6_perform, Cond.instanceMethod yX6_perform, Cond.selects RX6 yX6_perform yX6_perform]
def wsL_law_r28 : List Cond := [Cond.code yX6_perform cX6_perform 2 (some .int), Cond.fieldLink RX6 178 "GlacierGuidesModel" "readOne" "I", Cond.fieldLink RX6 165 "GlacierGuidesModel" "at" "I", Cond.fieldLink RX6 181 "GlacierGuidesModel" "readTwo" "I", Cond.methodLink RX6 172 yX6_word, Cond.instanceMethod yX6_word, Cond.selects RX6 yX6_word yX6_word, Cond.code yX6_word cX6_word 1 (some .int), Cond.methodLink RX6 168 yX6_isWord, Cond.instanceMethod yX6_isWord, Cond.selects RX6 yX6_isWord yX6_isWord, Cond.code yX6_isWord cX6_isWord 6 (some .boolean), Cond.methodLink RX6 175 yX6_number, Cond.instanceMethod yX6_number, Cond.selects RX6 yX6_number yX6_number, Cond.code yX6_number cX6_number 2 (some .int), Cond.methodLink RX6 184 yX6_book, Cond.methodLink RX6 187 yX6_leave, Cond.methodLink RX6 190 yX6_merge, Cond.methodLink RX6 193 yX6_cancel, Cond.methodLink RX6 196 yX6_lead, Cond.methodLink RL 82 yX5_undo, Cond.instanceMethod yX5_undo, Cond.selects RX5 yX5_undo yX5_undo]
def wsL_law_r29 : List Cond := [Cond.code yX5_undo cX5_undo 1 (some .int), Cond.fieldLink RX5 221 "GlacierGuides$History" "size" "I", Cond.methodLink RX5 224 yX1_takeBack, Cond.instanceMethod yX1_takeBack, Cond.selects RX1 yX1_takeBack yX1_takeBack, Cond.code yX1_takeBack cX1_takeBack 2 none, Cond.methodLink RL 85 yX6_undo, Cond.instanceMethod yX6_undo, Cond.selects RX6 yX6_undo yX6_undo, Cond.code yX6_undo cX6_undo 2 (some .int), Cond.methodLink RL 86 yX5_keep, Cond.instanceMethod yX5_keep, Cond.selects RX5 yX5_keep yX5_keep, Cond.code yX5_keep cX5_keep 1 (some .int), Cond.fieldLink RX5 230 "GlacierGuides" "hasSnapshot" "Z", Cond.methodLink RX5 227 yX2_copyFrom, Cond.methodLink RL 89 yX6_keep, Cond.instanceMethod yX6_keep, Cond.selects RX6 yX6_keep yX6_keep, Cond.code yX6_keep cX6_keep 2 (some .int), Cond.fieldLink RX6 199 "GlacierGuidesModel" "isFilled" "Z", Cond.methodLink RL 90 yX5_restore, Cond.instanceMethod yX5_restore, Cond.selects RX5 yX5_restore yX5_restore]
def wsL_law_r30 : List Cond := [Cond.code yX5_restore cX5_restore 1 (some .int), Cond.methodLink RL 93 yX6_restore, Cond.instanceMethod yX6_restore, Cond.selects RX6 yX6_restore yX6_restore, Cond.code yX6_restore cX6_restore 2 (some .int), Cond.methodLink RL 94 yX5_guide, Cond.instanceMethod yX5_guide, Cond.selects RX5 yX5_guide yX5_guide, Cond.code yX5_guide cX5_guide 4 (some .int), Cond.fieldLink RX5 240 "GlacierGuides$Guide" "toursLed" "I", Cond.fieldLink RX5 243 "GlacierGuides$Guide" "guestsLed" "I", Cond.methodLink RX5 234 yX0_isValidOn, Cond.methodLink RX5 237 yX2_firstOpenTourOf, Cond.instanceMethod yX2_firstOpenTourOf, Cond.selects RX2 yX2_firstOpenTourOf yX2_firstOpenTourOf, Cond.code yX2_firstOpenTourOf cX2_firstOpenTourOf 3 (some .int), Cond.methodLink RL 97 yX6_guide, Cond.instanceMethod yX6_guide, Cond.selects RX6 yX6_guide yX6_guide, Cond.code yX6_guide cX6_guide 3 (some .int), Cond.methodLink RX6 203 yX6_lowestTour, Cond.instanceMethod yX6_lowestTour, Cond.selects RX6 yX6_lowestTour yX6_lowestTour, Cond.code yX6_lowestTour cX6_lowestTour 3 (some .int)]
def wsL_law_r31 : List Cond := [Cond.methodLink RL 98 yX5_tour, Cond.instanceMethod yX5_tour, Cond.selects RX5 yX5_tour yX5_tour, Cond.code yX5_tour cX5_tour 4 (some .int), Cond.fieldLink RX5 246 "GlacierGuides$Tour" "day" "I", Cond.fieldLink RX5 247 "GlacierGuides$Tour" "bridges" "I", Cond.fieldLink RX5 250 "GlacierGuides$Tour" "cause" "I", Cond.fieldLink RX5 253 "GlacierGuides$Tour" "base" "I", Cond.methodLink RX5 256 yX2_causeAgainst, Cond.methodLink RL 101 yX6_tour, Cond.instanceMethod yX6_tour, Cond.selects RX6 yX6_tour yX6_tour, Cond.code yX6_tour cX6_tour 3 (some .int), Cond.methodLink RL 102 yX5_rope, Cond.instanceMethod yX5_rope, Cond.selects RX5 yX5_rope yX5_rope, Cond.code yX5_rope cX5_rope 5 (some .int), Cond.fieldLink RX5 260 "GlacierGuides$Tour" "row" "[I", Cond.methodLink RX5 264 yX2_guestsOnRope, Cond.methodLink RL 105 yX6_rope, Cond.instanceMethod yX6_rope, Cond.selects RX6 yX6_rope yX6_rope, Cond.code yX6_rope cX6_rope 5 (some .int), Cond.methodLink RL 106 yX5_thickness]
def wsL_law_r32 : List Cond := [Cond.instanceMethod yX5_thickness, Cond.selects RX5 yX5_thickness yX5_thickness, Cond.code yX5_thickness cX5_thickness 2 (some .double), Cond.methodLink RX5 267 yX2_hasBridge, Cond.instanceMethod yX2_hasBridge, Cond.selects RX2 yX2_hasBridge yX2_hasBridge, Cond.code yX2_hasBridge cX2_hasBridge 2 (some .boolean), Cond.methodLink RX5 270 yX5_noNumber, Cond.static yX5_noNumber, Cond.code yX5_noNumber cX5_noNumber 0 (some .double), Cond.constantDouble RX5 310 (9221120237041090560), Cond.methodLink RL 110 yX6_thickness, Cond.instanceMethod yX6_thickness, Cond.selects RX6 yX6_thickness yX6_thickness, Cond.code yX6_thickness cX6_thickness 2 (some .double), Cond.methodLink RX6 208 yX6_noBridge, Cond.instanceMethod yX6_noBridge, Cond.selects RX6 yX6_noBridge yX6_noBridge, Cond.code yX6_noBridge cX6_noBridge 2 (some .boolean), Cond.methodLink RX6 211 yX6_nothing, Cond.static yX6_nothing, Cond.code yX6_nothing cX6_nothing 0 (some .double), Cond.constantDouble RX6 206 (9221120237041090560), Cond.methodLink RL 111 yX5_foretold]
def wsL_law_r33 : List Cond := [Cond.instanceMethod yX5_foretold, Cond.selects RX5 yX5_foretold yX5_foretold, Cond.code yX5_foretold cX5_foretold 6 (some .double), Cond.methodLink RX5 274 yX2_dayLater, Cond.methodLink RL 115 yX6_foretold, Cond.instanceMethod yX6_foretold, Cond.selects RX6 yX6_foretold yX6_foretold, Cond.code yX6_foretold cX6_foretold 6 (some .double), Cond.methodLink RL 116 yX5_needed, Cond.instanceMethod yX5_needed, Cond.selects RX5 yX5_needed yX5_needed, Cond.code yX5_needed cX5_needed 3 (some .double), Cond.methodLink RX5 278 yX2_neededBy, Cond.methodLink RL 119 yX6_needed, Cond.instanceMethod yX6_needed, Cond.selects RX6 yX6_needed yX6_needed, Cond.code yX6_needed cX6_needed 2 (some .double), Cond.methodLink RL 120 yX5_holds, Cond.instanceMethod yX5_holds, Cond.selects RX5 yX5_holds yX5_holds, Cond.code yX5_holds cX5_holds 4 (some .int), Cond.methodLink RL 123 yX6_holds, Cond.instanceMethod yX6_holds, Cond.selects RX6 yX6_holds yX6_holds]
def wsL_law_r34 : List Cond := [Cond.code yX6_holds cX6_holds 3 (some .int), Cond.methodLink RL 124 yX5_bestGuide, Cond.instanceMethod yX5_bestGuide, Cond.selects RX5 yX5_bestGuide yX5_bestGuide, Cond.code yX5_bestGuide cX5_bestGuide 6 (some .int), Cond.methodLink RL 127 yX6_bestGuide, Cond.instanceMethod yX6_bestGuide, Cond.selects RX6 yX6_bestGuide yX6_bestGuide, Cond.code yX6_bestGuide cX6_bestGuide 5 (some .int), Cond.methodLink RL 128 yX5_takes, Cond.instanceMethod yX5_takes, Cond.selects RX5 yX5_takes yX5_takes, Cond.code yX5_takes cX5_takes 4 (some .int), Cond.methodLink RL 131 yX6_takes, Cond.instanceMethod yX6_takes, Cond.selects RX6 yX6_takes yX6_takes, Cond.code yX6_takes cX6_takes 3 (some .int), Cond.methodLink RL 132 yX5_count, Cond.instanceMethod yX5_count, Cond.selects RX5 yX5_count yX5_count, Cond.code yX5_count cX5_count 2 (some .int), Cond.fieldLink RX5 288 "GlacierGuides$State" "refunded" "I", Cond.methodLink RX5 282 yX2_toursThatAre, Cond.instanceMethod yX2_toursThatAre]
def wsL_law_r35 : List Cond := [Cond.selects RX2 yX2_toursThatAre yX2_toursThatAre, Cond.code yX2_toursThatAre cX2_toursThatAre 4 (some .int), Cond.methodLink RX5 285 yX2_allPaid, Cond.instanceMethod yX2_allPaid, Cond.selects RX2 yX2_allPaid yX2_allPaid, Cond.code yX2_allPaid cX2_allPaid 3 (some .int), Cond.methodLink RX5 291 yX2_guestsGone, Cond.instanceMethod yX2_guestsGone, Cond.selects RX2 yX2_guestsGone yX2_guestsGone, Cond.code yX2_guestsGone cX2_guestsGone 3 (some .int), Cond.methodLink RL 135 yX6_count, Cond.instanceMethod yX6_count, Cond.selects RX6 yX6_count yX6_count, Cond.code yX6_count cX6_count 2 (some .int), Cond.methodLink RX6 215 yX6_inState, Cond.instanceMethod yX6_inState, Cond.selects RX6 yX6_inState yX6_inState, Cond.code yX6_inState cX6_inState 4 (some .int), Cond.methodLink RX6 218 yX6_paidAll, Cond.instanceMethod yX6_paidAll, Cond.selects RX6 yX6_paidAll yX6_paidAll, Cond.code yX6_paidAll cX6_paidAll 3 (some .int), Cond.methodLink RX6 221 yX6_goneGuests, Cond.instanceMethod yX6_goneGuests]
def wsL_law_r36 : List Cond := [Cond.selects RX6 yX6_goneGuests yX6_goneGuests, Cond.code yX6_goneGuests cX6_goneGuests 3 (some .int), Cond.methodLink RL 136 yX5_temperature, Cond.instanceMethod yX5_temperature, Cond.selects RX5 yX5_temperature yX5_temperature, Cond.code yX5_temperature cX5_temperature 1 (some .long), Cond.methodLink RL 140 yX6_temperature, Cond.instanceMethod yX6_temperature, Cond.selects RX6 yX6_temperature yX6_temperature, Cond.code yX6_temperature cX6_temperature 1 (some .long), Cond.methodLink RX6 224 yJxe99ae_doubleToLongBits_ccdee, Cond.static yJxe99ae_doubleToLongBits_ccdee, Cond.initialized RJxe99ae, Cond.code yJxe99ae_doubleToLongBits_ccdee cJxe99ae_doubleToLongBits_ccdee 2 (some .long), Cond.methodLink RJxe99ae 134 ⟨"java/lang/Double", "doubleToRawLongBits", "(D)J"⟩, Cond.native ⟨"java/lang/Double", "doubleToRawLongBits", "(D)J"⟩, Cond.static ⟨"java/lang/Double", "doubleToRawLongBits", "(D)J"⟩, Cond.constantLong RJxe99ae 137 (9221120237041090560), Cond.methodLink RJxe99ae 122 yJxe99ae_isNaN_b9ae7, Cond.static yJxe99ae_isNaN_b9ae7, Cond.code yJxe99ae_isNaN_b9ae7 cJxe99ae_isNaN_b9ae7 2 (some .boolean)]
def wsL_law : List Cond := (wsL_law_r1 ++ (wsL_law_r2 ++ (wsL_law_r3 ++ (wsL_law_r4 ++ (wsL_law_r5 ++ (wsL_law_r6 ++ (wsL_law_r7 ++ (wsL_law_r8 ++ (wsL_law_r9 ++ (wsL_law_r10 ++ (wsL_law_r11 ++ (wsL_law_r12 ++ (wsL_law_r13 ++ (wsL_law_r14 ++ (wsL_law_r15 ++ (wsL_law_r16 ++ (wsL_law_r17 ++ (wsL_law_r18 ++ (wsL_law_r19 ++ (wsL_law_r20 ++ (wsL_law_r21 ++ (wsL_law_r22 ++ (wsL_law_r23 ++ (wsL_law_r24 ++ (wsL_law_r25 ++ (wsL_law_r26 ++ (wsL_law_r27 ++ (wsL_law_r28 ++ (wsL_law_r29 ++ (wsL_law_r30 ++ (wsL_law_r31 ++ (wsL_law_r32 ++ (wsL_law_r33 ++ (wsL_law_r34 ++ (wsL_law_r35 ++ wsL_law_r36))))))))))))))))))))))))))))))))))) ++ wsX50 ++ wsX60 ++ wsX20 ++ wsX10 ++ wsX30 ++ wsX00 ++ wsX40 ++ ([] : List Cond)
theorem inlX0 : ∀ w ∈ wsX00, w ∈ wsL_law := fun _ h => List.mem_append_left _ (List.mem_append_left _ (List.mem_append_right _ h))
theorem inlX1 : ∀ w ∈ wsX10, w ∈ wsL_law := fun _ h => List.mem_append_left _ (List.mem_append_left _ (List.mem_append_left _ (List.mem_append_left _ (List.mem_append_right _ h))))
theorem inlX2 : ∀ w ∈ wsX20, w ∈ wsL_law := fun _ h => List.mem_append_left _ (List.mem_append_left _ (List.mem_append_left _ (List.mem_append_left _ (List.mem_append_left _ (List.mem_append_right _ h)))))
theorem inlX3 : ∀ w ∈ wsX30, w ∈ wsL_law := fun _ h => List.mem_append_left _ (List.mem_append_left _ (List.mem_append_left _ (List.mem_append_right _ h)))
theorem inlX4 : ∀ w ∈ wsX40, w ∈ wsL_law := fun _ h => List.mem_append_left _ (List.mem_append_right _ h)
theorem inlX5 : ∀ w ∈ wsX50, w ∈ wsL_law := fun _ h => List.mem_append_left _ (List.mem_append_left _ (List.mem_append_left _ (List.mem_append_left _ (List.mem_append_left _ (List.mem_append_left _ (List.mem_append_left _ (List.mem_append_right _ h)))))))
theorem inlX6 : ∀ w ∈ wsX60, w ∈ wsL_law := fun _ h => List.mem_append_left _ (List.mem_append_left _ (List.mem_append_left _ (List.mem_append_left _ (List.mem_append_left _ (List.mem_append_left _ (List.mem_append_right _ h))))))
theorem wd_good : wsL_law.all goodWord = true := by decide +kernel
theorem wch1 : ∀ w ∈ wsL_law_r1, w ∈ wsL_law := fun w h => List.mem_append_left _ (List.mem_append_left _ (List.mem_append_left _ (List.mem_append_left _ (List.mem_append_left _ (List.mem_append_left _ (List.mem_append_left _ (List.mem_append_left _ (List.mem_append_left _ h))))))))
theorem wch2 : ∀ w ∈ wsL_law_r2, w ∈ wsL_law := fun w h => List.mem_append_left _ (List.mem_append_left _ (List.mem_append_left _ (List.mem_append_left _ (List.mem_append_left _ (List.mem_append_left _ (List.mem_append_left _ (List.mem_append_left _ (List.mem_append_right _ (List.mem_append_left _ h)))))))))
theorem wch3 : ∀ w ∈ wsL_law_r3, w ∈ wsL_law := fun w h => List.mem_append_left _ (List.mem_append_left _ (List.mem_append_left _ (List.mem_append_left _ (List.mem_append_left _ (List.mem_append_left _ (List.mem_append_left _ (List.mem_append_left _ (List.mem_append_right _ (List.mem_append_right _ (List.mem_append_left _ h))))))))))
theorem wch4 : ∀ w ∈ wsL_law_r4, w ∈ wsL_law := fun w h => List.mem_append_left _ (List.mem_append_left _ (List.mem_append_left _ (List.mem_append_left _ (List.mem_append_left _ (List.mem_append_left _ (List.mem_append_left _ (List.mem_append_left _ (List.mem_append_right _ (List.mem_append_right _ (List.mem_append_right _ (List.mem_append_left _ h)))))))))))
theorem wch5 : ∀ w ∈ wsL_law_r5, w ∈ wsL_law := fun w h => List.mem_append_left _ (List.mem_append_left _ (List.mem_append_left _ (List.mem_append_left _ (List.mem_append_left _ (List.mem_append_left _ (List.mem_append_left _ (List.mem_append_left _ (List.mem_append_right _ (List.mem_append_right _ (List.mem_append_right _ (List.mem_append_right _ (List.mem_append_left _ h))))))))))))
theorem wch6 : ∀ w ∈ wsL_law_r6, w ∈ wsL_law := fun w h => List.mem_append_left _ (List.mem_append_left _ (List.mem_append_left _ (List.mem_append_left _ (List.mem_append_left _ (List.mem_append_left _ (List.mem_append_left _ (List.mem_append_left _ (List.mem_append_right _ (List.mem_append_right _ (List.mem_append_right _ (List.mem_append_right _ (List.mem_append_right _ (List.mem_append_left _ h)))))))))))))
theorem wch7 : ∀ w ∈ wsL_law_r7, w ∈ wsL_law := fun w h => List.mem_append_left _ (List.mem_append_left _ (List.mem_append_left _ (List.mem_append_left _ (List.mem_append_left _ (List.mem_append_left _ (List.mem_append_left _ (List.mem_append_left _ (List.mem_append_right _ (List.mem_append_right _ (List.mem_append_right _ (List.mem_append_right _ (List.mem_append_right _ (List.mem_append_right _ (List.mem_append_left _ h))))))))))))))
theorem wch8 : ∀ w ∈ wsL_law_r8, w ∈ wsL_law := fun w h => List.mem_append_left _ (List.mem_append_left _ (List.mem_append_left _ (List.mem_append_left _ (List.mem_append_left _ (List.mem_append_left _ (List.mem_append_left _ (List.mem_append_left _ (List.mem_append_right _ (List.mem_append_right _ (List.mem_append_right _ (List.mem_append_right _ (List.mem_append_right _ (List.mem_append_right _ (List.mem_append_right _ (List.mem_append_left _ h)))))))))))))))
theorem wch9 : ∀ w ∈ wsL_law_r9, w ∈ wsL_law := fun w h => List.mem_append_left _ (List.mem_append_left _ (List.mem_append_left _ (List.mem_append_left _ (List.mem_append_left _ (List.mem_append_left _ (List.mem_append_left _ (List.mem_append_left _ (List.mem_append_right _ (List.mem_append_right _ (List.mem_append_right _ (List.mem_append_right _ (List.mem_append_right _ (List.mem_append_right _ (List.mem_append_right _ (List.mem_append_right _ (List.mem_append_left _ h))))))))))))))))
theorem wch10 : ∀ w ∈ wsL_law_r10, w ∈ wsL_law := fun w h => List.mem_append_left _ (List.mem_append_left _ (List.mem_append_left _ (List.mem_append_left _ (List.mem_append_left _ (List.mem_append_left _ (List.mem_append_left _ (List.mem_append_left _ (List.mem_append_right _ (List.mem_append_right _ (List.mem_append_right _ (List.mem_append_right _ (List.mem_append_right _ (List.mem_append_right _ (List.mem_append_right _ (List.mem_append_right _ (List.mem_append_right _ (List.mem_append_left _ h)))))))))))))))))
theorem wch11 : ∀ w ∈ wsL_law_r11, w ∈ wsL_law := fun w h => List.mem_append_left _ (List.mem_append_left _ (List.mem_append_left _ (List.mem_append_left _ (List.mem_append_left _ (List.mem_append_left _ (List.mem_append_left _ (List.mem_append_left _ (List.mem_append_right _ (List.mem_append_right _ (List.mem_append_right _ (List.mem_append_right _ (List.mem_append_right _ (List.mem_append_right _ (List.mem_append_right _ (List.mem_append_right _ (List.mem_append_right _ (List.mem_append_right _ (List.mem_append_left _ h))))))))))))))))))
theorem wch12 : ∀ w ∈ wsL_law_r12, w ∈ wsL_law := fun w h => List.mem_append_left _ (List.mem_append_left _ (List.mem_append_left _ (List.mem_append_left _ (List.mem_append_left _ (List.mem_append_left _ (List.mem_append_left _ (List.mem_append_left _ (List.mem_append_right _ (List.mem_append_right _ (List.mem_append_right _ (List.mem_append_right _ (List.mem_append_right _ (List.mem_append_right _ (List.mem_append_right _ (List.mem_append_right _ (List.mem_append_right _ (List.mem_append_right _ (List.mem_append_right _ (List.mem_append_left _ h)))))))))))))))))))
theorem wch13 : ∀ w ∈ wsL_law_r13, w ∈ wsL_law := fun w h => List.mem_append_left _ (List.mem_append_left _ (List.mem_append_left _ (List.mem_append_left _ (List.mem_append_left _ (List.mem_append_left _ (List.mem_append_left _ (List.mem_append_left _ (List.mem_append_right _ (List.mem_append_right _ (List.mem_append_right _ (List.mem_append_right _ (List.mem_append_right _ (List.mem_append_right _ (List.mem_append_right _ (List.mem_append_right _ (List.mem_append_right _ (List.mem_append_right _ (List.mem_append_right _ (List.mem_append_right _ (List.mem_append_left _ h))))))))))))))))))))
theorem wch14 : ∀ w ∈ wsL_law_r14, w ∈ wsL_law := fun w h => List.mem_append_left _ (List.mem_append_left _ (List.mem_append_left _ (List.mem_append_left _ (List.mem_append_left _ (List.mem_append_left _ (List.mem_append_left _ (List.mem_append_left _ (List.mem_append_right _ (List.mem_append_right _ (List.mem_append_right _ (List.mem_append_right _ (List.mem_append_right _ (List.mem_append_right _ (List.mem_append_right _ (List.mem_append_right _ (List.mem_append_right _ (List.mem_append_right _ (List.mem_append_right _ (List.mem_append_right _ (List.mem_append_right _ (List.mem_append_left _ h)))))))))))))))))))))
theorem wch15 : ∀ w ∈ wsL_law_r15, w ∈ wsL_law := fun w h => List.mem_append_left _ (List.mem_append_left _ (List.mem_append_left _ (List.mem_append_left _ (List.mem_append_left _ (List.mem_append_left _ (List.mem_append_left _ (List.mem_append_left _ (List.mem_append_right _ (List.mem_append_right _ (List.mem_append_right _ (List.mem_append_right _ (List.mem_append_right _ (List.mem_append_right _ (List.mem_append_right _ (List.mem_append_right _ (List.mem_append_right _ (List.mem_append_right _ (List.mem_append_right _ (List.mem_append_right _ (List.mem_append_right _ (List.mem_append_right _ (List.mem_append_left _ h))))))))))))))))))))))
theorem wch16 : ∀ w ∈ wsL_law_r16, w ∈ wsL_law := fun w h => List.mem_append_left _ (List.mem_append_left _ (List.mem_append_left _ (List.mem_append_left _ (List.mem_append_left _ (List.mem_append_left _ (List.mem_append_left _ (List.mem_append_left _ (List.mem_append_right _ (List.mem_append_right _ (List.mem_append_right _ (List.mem_append_right _ (List.mem_append_right _ (List.mem_append_right _ (List.mem_append_right _ (List.mem_append_right _ (List.mem_append_right _ (List.mem_append_right _ (List.mem_append_right _ (List.mem_append_right _ (List.mem_append_right _ (List.mem_append_right _ (List.mem_append_right _ (List.mem_append_left _ h)))))))))))))))))))))))
theorem wch17 : ∀ w ∈ wsL_law_r17, w ∈ wsL_law := fun w h => List.mem_append_left _ (List.mem_append_left _ (List.mem_append_left _ (List.mem_append_left _ (List.mem_append_left _ (List.mem_append_left _ (List.mem_append_left _ (List.mem_append_left _ (List.mem_append_right _ (List.mem_append_right _ (List.mem_append_right _ (List.mem_append_right _ (List.mem_append_right _ (List.mem_append_right _ (List.mem_append_right _ (List.mem_append_right _ (List.mem_append_right _ (List.mem_append_right _ (List.mem_append_right _ (List.mem_append_right _ (List.mem_append_right _ (List.mem_append_right _ (List.mem_append_right _ (List.mem_append_right _ (List.mem_append_left _ h))))))))))))))))))))))))
theorem wch18 : ∀ w ∈ wsL_law_r18, w ∈ wsL_law := fun w h => List.mem_append_left _ (List.mem_append_left _ (List.mem_append_left _ (List.mem_append_left _ (List.mem_append_left _ (List.mem_append_left _ (List.mem_append_left _ (List.mem_append_left _ (List.mem_append_right _ (List.mem_append_right _ (List.mem_append_right _ (List.mem_append_right _ (List.mem_append_right _ (List.mem_append_right _ (List.mem_append_right _ (List.mem_append_right _ (List.mem_append_right _ (List.mem_append_right _ (List.mem_append_right _ (List.mem_append_right _ (List.mem_append_right _ (List.mem_append_right _ (List.mem_append_right _ (List.mem_append_right _ (List.mem_append_right _ (List.mem_append_left _ h)))))))))))))))))))))))))
theorem wch19 : ∀ w ∈ wsL_law_r19, w ∈ wsL_law := fun w h => List.mem_append_left _ (List.mem_append_left _ (List.mem_append_left _ (List.mem_append_left _ (List.mem_append_left _ (List.mem_append_left _ (List.mem_append_left _ (List.mem_append_left _ (List.mem_append_right _ (List.mem_append_right _ (List.mem_append_right _ (List.mem_append_right _ (List.mem_append_right _ (List.mem_append_right _ (List.mem_append_right _ (List.mem_append_right _ (List.mem_append_right _ (List.mem_append_right _ (List.mem_append_right _ (List.mem_append_right _ (List.mem_append_right _ (List.mem_append_right _ (List.mem_append_right _ (List.mem_append_right _ (List.mem_append_right _ (List.mem_append_right _ (List.mem_append_left _ h))))))))))))))))))))))))))
theorem wch20 : ∀ w ∈ wsL_law_r20, w ∈ wsL_law := fun w h => List.mem_append_left _ (List.mem_append_left _ (List.mem_append_left _ (List.mem_append_left _ (List.mem_append_left _ (List.mem_append_left _ (List.mem_append_left _ (List.mem_append_left _ (List.mem_append_right _ (List.mem_append_right _ (List.mem_append_right _ (List.mem_append_right _ (List.mem_append_right _ (List.mem_append_right _ (List.mem_append_right _ (List.mem_append_right _ (List.mem_append_right _ (List.mem_append_right _ (List.mem_append_right _ (List.mem_append_right _ (List.mem_append_right _ (List.mem_append_right _ (List.mem_append_right _ (List.mem_append_right _ (List.mem_append_right _ (List.mem_append_right _ (List.mem_append_right _ (List.mem_append_left _ h)))))))))))))))))))))))))))
theorem wch21 : ∀ w ∈ wsL_law_r21, w ∈ wsL_law := fun w h => List.mem_append_left _ (List.mem_append_left _ (List.mem_append_left _ (List.mem_append_left _ (List.mem_append_left _ (List.mem_append_left _ (List.mem_append_left _ (List.mem_append_left _ (List.mem_append_right _ (List.mem_append_right _ (List.mem_append_right _ (List.mem_append_right _ (List.mem_append_right _ (List.mem_append_right _ (List.mem_append_right _ (List.mem_append_right _ (List.mem_append_right _ (List.mem_append_right _ (List.mem_append_right _ (List.mem_append_right _ (List.mem_append_right _ (List.mem_append_right _ (List.mem_append_right _ (List.mem_append_right _ (List.mem_append_right _ (List.mem_append_right _ (List.mem_append_right _ (List.mem_append_right _ (List.mem_append_left _ h))))))))))))))))))))))))))))
theorem wch22 : ∀ w ∈ wsL_law_r22, w ∈ wsL_law := fun w h => List.mem_append_left _ (List.mem_append_left _ (List.mem_append_left _ (List.mem_append_left _ (List.mem_append_left _ (List.mem_append_left _ (List.mem_append_left _ (List.mem_append_left _ (List.mem_append_right _ (List.mem_append_right _ (List.mem_append_right _ (List.mem_append_right _ (List.mem_append_right _ (List.mem_append_right _ (List.mem_append_right _ (List.mem_append_right _ (List.mem_append_right _ (List.mem_append_right _ (List.mem_append_right _ (List.mem_append_right _ (List.mem_append_right _ (List.mem_append_right _ (List.mem_append_right _ (List.mem_append_right _ (List.mem_append_right _ (List.mem_append_right _ (List.mem_append_right _ (List.mem_append_right _ (List.mem_append_right _ (List.mem_append_left _ h)))))))))))))))))))))))))))))
theorem wch23 : ∀ w ∈ wsL_law_r23, w ∈ wsL_law := fun w h => List.mem_append_left _ (List.mem_append_left _ (List.mem_append_left _ (List.mem_append_left _ (List.mem_append_left _ (List.mem_append_left _ (List.mem_append_left _ (List.mem_append_left _ (List.mem_append_right _ (List.mem_append_right _ (List.mem_append_right _ (List.mem_append_right _ (List.mem_append_right _ (List.mem_append_right _ (List.mem_append_right _ (List.mem_append_right _ (List.mem_append_right _ (List.mem_append_right _ (List.mem_append_right _ (List.mem_append_right _ (List.mem_append_right _ (List.mem_append_right _ (List.mem_append_right _ (List.mem_append_right _ (List.mem_append_right _ (List.mem_append_right _ (List.mem_append_right _ (List.mem_append_right _ (List.mem_append_right _ (List.mem_append_right _ (List.mem_append_left _ h))))))))))))))))))))))))))))))
theorem wch24 : ∀ w ∈ wsL_law_r24, w ∈ wsL_law := fun w h => List.mem_append_left _ (List.mem_append_left _ (List.mem_append_left _ (List.mem_append_left _ (List.mem_append_left _ (List.mem_append_left _ (List.mem_append_left _ (List.mem_append_left _ (List.mem_append_right _ (List.mem_append_right _ (List.mem_append_right _ (List.mem_append_right _ (List.mem_append_right _ (List.mem_append_right _ (List.mem_append_right _ (List.mem_append_right _ (List.mem_append_right _ (List.mem_append_right _ (List.mem_append_right _ (List.mem_append_right _ (List.mem_append_right _ (List.mem_append_right _ (List.mem_append_right _ (List.mem_append_right _ (List.mem_append_right _ (List.mem_append_right _ (List.mem_append_right _ (List.mem_append_right _ (List.mem_append_right _ (List.mem_append_right _ (List.mem_append_right _ (List.mem_append_left _ h)))))))))))))))))))))))))))))))
theorem wch25 : ∀ w ∈ wsL_law_r25, w ∈ wsL_law := fun w h => List.mem_append_left _ (List.mem_append_left _ (List.mem_append_left _ (List.mem_append_left _ (List.mem_append_left _ (List.mem_append_left _ (List.mem_append_left _ (List.mem_append_left _ (List.mem_append_right _ (List.mem_append_right _ (List.mem_append_right _ (List.mem_append_right _ (List.mem_append_right _ (List.mem_append_right _ (List.mem_append_right _ (List.mem_append_right _ (List.mem_append_right _ (List.mem_append_right _ (List.mem_append_right _ (List.mem_append_right _ (List.mem_append_right _ (List.mem_append_right _ (List.mem_append_right _ (List.mem_append_right _ (List.mem_append_right _ (List.mem_append_right _ (List.mem_append_right _ (List.mem_append_right _ (List.mem_append_right _ (List.mem_append_right _ (List.mem_append_right _ (List.mem_append_right _ (List.mem_append_left _ h))))))))))))))))))))))))))))))))
theorem wch26 : ∀ w ∈ wsL_law_r26, w ∈ wsL_law := fun w h => List.mem_append_left _ (List.mem_append_left _ (List.mem_append_left _ (List.mem_append_left _ (List.mem_append_left _ (List.mem_append_left _ (List.mem_append_left _ (List.mem_append_left _ (List.mem_append_right _ (List.mem_append_right _ (List.mem_append_right _ (List.mem_append_right _ (List.mem_append_right _ (List.mem_append_right _ (List.mem_append_right _ (List.mem_append_right _ (List.mem_append_right _ (List.mem_append_right _ (List.mem_append_right _ (List.mem_append_right _ (List.mem_append_right _ (List.mem_append_right _ (List.mem_append_right _ (List.mem_append_right _ (List.mem_append_right _ (List.mem_append_right _ (List.mem_append_right _ (List.mem_append_right _ (List.mem_append_right _ (List.mem_append_right _ (List.mem_append_right _ (List.mem_append_right _ (List.mem_append_right _ (List.mem_append_left _ h)))))))))))))))))))))))))))))))))
theorem wch27 : ∀ w ∈ wsL_law_r27, w ∈ wsL_law := fun w h => List.mem_append_left _ (List.mem_append_left _ (List.mem_append_left _ (List.mem_append_left _ (List.mem_append_left _ (List.mem_append_left _ (List.mem_append_left _ (List.mem_append_left _ (List.mem_append_right _ (List.mem_append_right _ (List.mem_append_right _ (List.mem_append_right _ (List.mem_append_right _ (List.mem_append_right _ (List.mem_append_right _ (List.mem_append_right _ (List.mem_append_right _ (List.mem_append_right _ (List.mem_append_right _ (List.mem_append_right _ (List.mem_append_right _ (List.mem_append_right _ (List.mem_append_right _ (List.mem_append_right _ (List.mem_append_right _ (List.mem_append_right _ (List.mem_append_right _ (List.mem_append_right _ (List.mem_append_right _ (List.mem_append_right _ (List.mem_append_right _ (List.mem_append_right _ (List.mem_append_right _ (List.mem_append_right _ (List.mem_append_left _ h))))))))))))))))))))))))))))))))))
theorem wch28 : ∀ w ∈ wsL_law_r28, w ∈ wsL_law := fun w h => List.mem_append_left _ (List.mem_append_left _ (List.mem_append_left _ (List.mem_append_left _ (List.mem_append_left _ (List.mem_append_left _ (List.mem_append_left _ (List.mem_append_left _ (List.mem_append_right _ (List.mem_append_right _ (List.mem_append_right _ (List.mem_append_right _ (List.mem_append_right _ (List.mem_append_right _ (List.mem_append_right _ (List.mem_append_right _ (List.mem_append_right _ (List.mem_append_right _ (List.mem_append_right _ (List.mem_append_right _ (List.mem_append_right _ (List.mem_append_right _ (List.mem_append_right _ (List.mem_append_right _ (List.mem_append_right _ (List.mem_append_right _ (List.mem_append_right _ (List.mem_append_right _ (List.mem_append_right _ (List.mem_append_right _ (List.mem_append_right _ (List.mem_append_right _ (List.mem_append_right _ (List.mem_append_right _ (List.mem_append_right _ (List.mem_append_left _ h)))))))))))))))))))))))))))))))))))
theorem wch29 : ∀ w ∈ wsL_law_r29, w ∈ wsL_law := fun w h => List.mem_append_left _ (List.mem_append_left _ (List.mem_append_left _ (List.mem_append_left _ (List.mem_append_left _ (List.mem_append_left _ (List.mem_append_left _ (List.mem_append_left _ (List.mem_append_right _ (List.mem_append_right _ (List.mem_append_right _ (List.mem_append_right _ (List.mem_append_right _ (List.mem_append_right _ (List.mem_append_right _ (List.mem_append_right _ (List.mem_append_right _ (List.mem_append_right _ (List.mem_append_right _ (List.mem_append_right _ (List.mem_append_right _ (List.mem_append_right _ (List.mem_append_right _ (List.mem_append_right _ (List.mem_append_right _ (List.mem_append_right _ (List.mem_append_right _ (List.mem_append_right _ (List.mem_append_right _ (List.mem_append_right _ (List.mem_append_right _ (List.mem_append_right _ (List.mem_append_right _ (List.mem_append_right _ (List.mem_append_right _ (List.mem_append_right _ (List.mem_append_left _ h))))))))))))))))))))))))))))))))))))
theorem wch30 : ∀ w ∈ wsL_law_r30, w ∈ wsL_law := fun w h => List.mem_append_left _ (List.mem_append_left _ (List.mem_append_left _ (List.mem_append_left _ (List.mem_append_left _ (List.mem_append_left _ (List.mem_append_left _ (List.mem_append_left _ (List.mem_append_right _ (List.mem_append_right _ (List.mem_append_right _ (List.mem_append_right _ (List.mem_append_right _ (List.mem_append_right _ (List.mem_append_right _ (List.mem_append_right _ (List.mem_append_right _ (List.mem_append_right _ (List.mem_append_right _ (List.mem_append_right _ (List.mem_append_right _ (List.mem_append_right _ (List.mem_append_right _ (List.mem_append_right _ (List.mem_append_right _ (List.mem_append_right _ (List.mem_append_right _ (List.mem_append_right _ (List.mem_append_right _ (List.mem_append_right _ (List.mem_append_right _ (List.mem_append_right _ (List.mem_append_right _ (List.mem_append_right _ (List.mem_append_right _ (List.mem_append_right _ (List.mem_append_right _ (List.mem_append_left _ h)))))))))))))))))))))))))))))))))))))
theorem wch31 : ∀ w ∈ wsL_law_r31, w ∈ wsL_law := fun w h => List.mem_append_left _ (List.mem_append_left _ (List.mem_append_left _ (List.mem_append_left _ (List.mem_append_left _ (List.mem_append_left _ (List.mem_append_left _ (List.mem_append_left _ (List.mem_append_right _ (List.mem_append_right _ (List.mem_append_right _ (List.mem_append_right _ (List.mem_append_right _ (List.mem_append_right _ (List.mem_append_right _ (List.mem_append_right _ (List.mem_append_right _ (List.mem_append_right _ (List.mem_append_right _ (List.mem_append_right _ (List.mem_append_right _ (List.mem_append_right _ (List.mem_append_right _ (List.mem_append_right _ (List.mem_append_right _ (List.mem_append_right _ (List.mem_append_right _ (List.mem_append_right _ (List.mem_append_right _ (List.mem_append_right _ (List.mem_append_right _ (List.mem_append_right _ (List.mem_append_right _ (List.mem_append_right _ (List.mem_append_right _ (List.mem_append_right _ (List.mem_append_right _ (List.mem_append_right _ (List.mem_append_left _ h))))))))))))))))))))))))))))))))))))))
theorem wch32 : ∀ w ∈ wsL_law_r32, w ∈ wsL_law := fun w h => List.mem_append_left _ (List.mem_append_left _ (List.mem_append_left _ (List.mem_append_left _ (List.mem_append_left _ (List.mem_append_left _ (List.mem_append_left _ (List.mem_append_left _ (List.mem_append_right _ (List.mem_append_right _ (List.mem_append_right _ (List.mem_append_right _ (List.mem_append_right _ (List.mem_append_right _ (List.mem_append_right _ (List.mem_append_right _ (List.mem_append_right _ (List.mem_append_right _ (List.mem_append_right _ (List.mem_append_right _ (List.mem_append_right _ (List.mem_append_right _ (List.mem_append_right _ (List.mem_append_right _ (List.mem_append_right _ (List.mem_append_right _ (List.mem_append_right _ (List.mem_append_right _ (List.mem_append_right _ (List.mem_append_right _ (List.mem_append_right _ (List.mem_append_right _ (List.mem_append_right _ (List.mem_append_right _ (List.mem_append_right _ (List.mem_append_right _ (List.mem_append_right _ (List.mem_append_right _ (List.mem_append_right _ (List.mem_append_left _ h)))))))))))))))))))))))))))))))))))))))
theorem wch33 : ∀ w ∈ wsL_law_r33, w ∈ wsL_law := fun w h => List.mem_append_left _ (List.mem_append_left _ (List.mem_append_left _ (List.mem_append_left _ (List.mem_append_left _ (List.mem_append_left _ (List.mem_append_left _ (List.mem_append_left _ (List.mem_append_right _ (List.mem_append_right _ (List.mem_append_right _ (List.mem_append_right _ (List.mem_append_right _ (List.mem_append_right _ (List.mem_append_right _ (List.mem_append_right _ (List.mem_append_right _ (List.mem_append_right _ (List.mem_append_right _ (List.mem_append_right _ (List.mem_append_right _ (List.mem_append_right _ (List.mem_append_right _ (List.mem_append_right _ (List.mem_append_right _ (List.mem_append_right _ (List.mem_append_right _ (List.mem_append_right _ (List.mem_append_right _ (List.mem_append_right _ (List.mem_append_right _ (List.mem_append_right _ (List.mem_append_right _ (List.mem_append_right _ (List.mem_append_right _ (List.mem_append_right _ (List.mem_append_right _ (List.mem_append_right _ (List.mem_append_right _ (List.mem_append_right _ (List.mem_append_left _ h))))))))))))))))))))))))))))))))))))))))
theorem wch34 : ∀ w ∈ wsL_law_r34, w ∈ wsL_law := fun w h => List.mem_append_left _ (List.mem_append_left _ (List.mem_append_left _ (List.mem_append_left _ (List.mem_append_left _ (List.mem_append_left _ (List.mem_append_left _ (List.mem_append_left _ (List.mem_append_right _ (List.mem_append_right _ (List.mem_append_right _ (List.mem_append_right _ (List.mem_append_right _ (List.mem_append_right _ (List.mem_append_right _ (List.mem_append_right _ (List.mem_append_right _ (List.mem_append_right _ (List.mem_append_right _ (List.mem_append_right _ (List.mem_append_right _ (List.mem_append_right _ (List.mem_append_right _ (List.mem_append_right _ (List.mem_append_right _ (List.mem_append_right _ (List.mem_append_right _ (List.mem_append_right _ (List.mem_append_right _ (List.mem_append_right _ (List.mem_append_right _ (List.mem_append_right _ (List.mem_append_right _ (List.mem_append_right _ (List.mem_append_right _ (List.mem_append_right _ (List.mem_append_right _ (List.mem_append_right _ (List.mem_append_right _ (List.mem_append_right _ (List.mem_append_right _ (List.mem_append_left _ h)))))))))))))))))))))))))))))))))))))))))
theorem wch35 : ∀ w ∈ wsL_law_r35, w ∈ wsL_law := fun w h => List.mem_append_left _ (List.mem_append_left _ (List.mem_append_left _ (List.mem_append_left _ (List.mem_append_left _ (List.mem_append_left _ (List.mem_append_left _ (List.mem_append_left _ (List.mem_append_right _ (List.mem_append_right _ (List.mem_append_right _ (List.mem_append_right _ (List.mem_append_right _ (List.mem_append_right _ (List.mem_append_right _ (List.mem_append_right _ (List.mem_append_right _ (List.mem_append_right _ (List.mem_append_right _ (List.mem_append_right _ (List.mem_append_right _ (List.mem_append_right _ (List.mem_append_right _ (List.mem_append_right _ (List.mem_append_right _ (List.mem_append_right _ (List.mem_append_right _ (List.mem_append_right _ (List.mem_append_right _ (List.mem_append_right _ (List.mem_append_right _ (List.mem_append_right _ (List.mem_append_right _ (List.mem_append_right _ (List.mem_append_right _ (List.mem_append_right _ (List.mem_append_right _ (List.mem_append_right _ (List.mem_append_right _ (List.mem_append_right _ (List.mem_append_right _ (List.mem_append_right _ (List.mem_append_left _ h))))))))))))))))))))))))))))))))))))))))))
theorem wch36 : ∀ w ∈ wsL_law_r36, w ∈ wsL_law := fun w h => List.mem_append_left _ (List.mem_append_left _ (List.mem_append_left _ (List.mem_append_left _ (List.mem_append_left _ (List.mem_append_left _ (List.mem_append_left _ (List.mem_append_left _ (List.mem_append_right _ (List.mem_append_right _ (List.mem_append_right _ (List.mem_append_right _ (List.mem_append_right _ (List.mem_append_right _ (List.mem_append_right _ (List.mem_append_right _ (List.mem_append_right _ (List.mem_append_right _ (List.mem_append_right _ (List.mem_append_right _ (List.mem_append_right _ (List.mem_append_right _ (List.mem_append_right _ (List.mem_append_right _ (List.mem_append_right _ (List.mem_append_right _ (List.mem_append_right _ (List.mem_append_right _ (List.mem_append_right _ (List.mem_append_right _ (List.mem_append_right _ (List.mem_append_right _ (List.mem_append_right _ (List.mem_append_right _ (List.mem_append_right _ (List.mem_append_right _ (List.mem_append_right _ (List.mem_append_right _ (List.mem_append_right _ (List.mem_append_right _ (List.mem_append_right _ (List.mem_append_right _ (List.mem_append_right _ (h)))))))))))))))))))))))))))))))))))))))))))
theorem q0 : (Cond.classLink RL 7 RX5) ∈ wsL_law := wch1 _ (List.mem_of_getElem? (i := 0) rfl)
theorem q1 : (Cond.instantiable RX5 5) ∈ wsL_law := wch1 _ (List.mem_of_getElem? (i := 1) rfl)
theorem q2 : (Cond.initialized RX5) ∈ wsL_law := wch1 _ (List.mem_of_getElem? (i := 2) rfl)
theorem q3 : (Cond.classLink RL 10 RX6) ∈ wsL_law := wch1 _ (List.mem_of_getElem? (i := 3) rfl)
theorem q4 : (Cond.instantiable RX6 13) ∈ wsL_law := wch1 _ (List.mem_of_getElem? (i := 4) rfl)
theorem q5 : (Cond.initialized RX6) ∈ wsL_law := wch1 _ (List.mem_of_getElem? (i := 5) rfl)
theorem q6 : (Cond.constantLong RL 23 (4294967295)) ∈ wsL_law := wch1 _ (List.mem_of_getElem? (i := 6) rfl)
theorem q7 : (Cond.methodLink RL 9 yX5_init) ∈ wsL_law := wch1 _ (List.mem_of_getElem? (i := 7) rfl)
theorem q8 : (Cond.instanceMethod yX5_init) ∈ wsL_law := wch1 _ (List.mem_of_getElem? (i := 8) rfl)
theorem q9 : (Cond.code yX5_init cX5_init 1 none) ∈ wsL_law := wch1 _ (List.mem_of_getElem? (i := 9) rfl)
theorem q10 : (Cond.methodLink RX5 1 objectInit) ∈ wsL_law := wch1 _ (List.mem_of_getElem? (i := 10) rfl)
theorem q11 : (Cond.instanceMethod objectInit) ∈ wsL_law := wch1 _ (List.mem_of_getElem? (i := 11) rfl)
theorem q12 : (Cond.code objectInit ⟨#[0xb1]⟩ 1 none) ∈ wsL_law := wch1 _ (List.mem_of_getElem? (i := 12) rfl)
theorem q13 : (Cond.classLink RX5 7 RX2) ∈ wsL_law := wch1 _ (List.mem_of_getElem? (i := 13) rfl)
theorem q14 : (Cond.instantiable RX2 10) ∈ wsL_law := wch1 _ (List.mem_of_getElem? (i := 14) rfl)
theorem q15 : (Cond.initialized RX2) ∈ wsL_law := wch1 _ (List.mem_of_getElem? (i := 15) rfl)
theorem q16 : (Cond.fieldLink RX5 10 "GlacierGuides" "now" "LGlacierGuides$State;") ∈ wsL_law := wch1 _ (List.mem_of_getElem? (i := 16) rfl)
theorem q17 : (Cond.fieldLink RX5 16 "GlacierGuides" "snapshot" "LGlacierGuides$State;") ∈ wsL_law := wch1 _ (List.mem_of_getElem? (i := 17) rfl)
theorem q18 : (Cond.classLink RX5 19 RX1) ∈ wsL_law := wch1 _ (List.mem_of_getElem? (i := 18) rfl)
theorem q19 : (Cond.instantiable RX1 3) ∈ wsL_law := wch1 _ (List.mem_of_getElem? (i := 19) rfl)
theorem q20 : (Cond.initialized RX1) ∈ wsL_law := wch1 _ (List.mem_of_getElem? (i := 20) rfl)
theorem q21 : (Cond.fieldLink RX5 22 "GlacierGuides" "history" "LGlacierGuides$History;") ∈ wsL_law := wch1 _ (List.mem_of_getElem? (i := 21) rfl)
theorem q22 : (Cond.classLink RX5 26 RX3) ∈ wsL_law := wch1 _ (List.mem_of_getElem? (i := 22) rfl)
theorem q23 : (Cond.instantiable RX3 5) ∈ wsL_law := wch1 _ (List.mem_of_getElem? (i := 23) rfl)
theorem q24 : (Cond.initialized RX3) ∈ wsL_law := wch2 _ (List.mem_of_getElem? (i := 0) rfl)
theorem q25 : (Cond.fieldLink RX5 29 "GlacierGuides" "text" "LGlacierGuides$Text;") ∈ wsL_law := wch2 _ (List.mem_of_getElem? (i := 1) rfl)
theorem q26 : (Cond.methodLink RX5 9 yX2_init) ∈ wsL_law := wch2 _ (List.mem_of_getElem? (i := 2) rfl)
theorem q27 : (Cond.instanceMethod yX2_init) ∈ wsL_law := wch2 _ (List.mem_of_getElem? (i := 3) rfl)
theorem q28 : (Cond.code yX2_init cX2_init 2 none) ∈ wsL_law := wch2 _ (List.mem_of_getElem? (i := 4) rfl)
theorem q29 : (Cond.methodLink RX2 3 objectInit) ∈ wsL_law := wch2 _ (List.mem_of_getElem? (i := 5) rfl)
theorem q30 : (Cond.classLink RX2 9 RX0) ∈ wsL_law := wch2 _ (List.mem_of_getElem? (i := 6) rfl)
theorem q31 : (Cond.fieldLink RX2 11 "GlacierGuides$State" "guides" "[LGlacierGuides$Guide;") ∈ wsL_law := wch2 _ (List.mem_of_getElem? (i := 7) rfl)
theorem q32 : (Cond.instantiable RX0 4) ∈ wsL_law := wch2 _ (List.mem_of_getElem? (i := 8) rfl)
theorem q33 : (Cond.initialized RX0) ∈ wsL_law := wch2 _ (List.mem_of_getElem? (i := 9) rfl)
theorem q34 : (Cond.arrayClass .double) ∈ wsL_law := wch2 _ (List.mem_of_getElem? (i := 10) rfl)
theorem q35 : (Cond.fieldLink RX2 18 "GlacierGuides$State" "thicknesses" "[D") ∈ wsL_law := wch2 _ (List.mem_of_getElem? (i := 11) rfl)
theorem q36 : (Cond.classLink RX2 22 RX4) ∈ wsL_law := wch2 _ (List.mem_of_getElem? (i := 12) rfl)
theorem q37 : (Cond.fieldLink RX2 24 "GlacierGuides$State" "tours" "[LGlacierGuides$Tour;") ∈ wsL_law := wch2 _ (List.mem_of_getElem? (i := 13) rfl)
theorem q38 : (Cond.instantiable RX4 11) ∈ wsL_law := wch2 _ (List.mem_of_getElem? (i := 14) rfl)
theorem q39 : (Cond.initialized RX4) ∈ wsL_law := wch2 _ (List.mem_of_getElem? (i := 15) rfl)
theorem q40 : (Cond.instanceMethod yX0_init) ∈ wsL_law := wch2 _ (List.mem_of_getElem? (i := 16) rfl)
theorem q41 : (Cond.code yX0_init cX0_init 1 none) ∈ wsL_law := wch2 _ (List.mem_of_getElem? (i := 17) rfl)
theorem q42 : (Cond.methodLink RX0 1 objectInit) ∈ wsL_law := wch2 _ (List.mem_of_getElem? (i := 18) rfl)
theorem q43 : (Cond.methodLink RX2 28 yX4_init) ∈ wsL_law := wch2 _ (List.mem_of_getElem? (i := 19) rfl)
theorem q44 : (Cond.instanceMethod yX4_init) ∈ wsL_law := wch2 _ (List.mem_of_getElem? (i := 20) rfl)
theorem q45 : (Cond.code yX4_init cX4_init 1 none) ∈ wsL_law := wch2 _ (List.mem_of_getElem? (i := 21) rfl)
theorem q46 : (Cond.methodLink RX4 3 objectInit) ∈ wsL_law := wch2 _ (List.mem_of_getElem? (i := 22) rfl)
theorem q47 : (Cond.arrayClass .int) ∈ wsL_law := wch2 _ (List.mem_of_getElem? (i := 23) rfl)
theorem q48 : (Cond.fieldLink RX4 9 "GlacierGuides$Tour" "row" "[I") ∈ wsL_law := wch3 _ (List.mem_of_getElem? (i := 0) rfl)
theorem q49 : (Cond.methodLink RX5 21 yX1_init) ∈ wsL_law := wch3 _ (List.mem_of_getElem? (i := 1) rfl)
theorem q50 : (Cond.instanceMethod yX1_init) ∈ wsL_law := wch3 _ (List.mem_of_getElem? (i := 2) rfl)
theorem q51 : (Cond.code yX1_init cX1_init 2 none) ∈ wsL_law := wch3 _ (List.mem_of_getElem? (i := 3) rfl)
theorem q52 : (Cond.methodLink RX1 3 objectInit) ∈ wsL_law := wch3 _ (List.mem_of_getElem? (i := 4) rfl)
theorem q53 : (Cond.classLink RX1 9 RX2) ∈ wsL_law := wch3 _ (List.mem_of_getElem? (i := 5) rfl)
theorem q54 : (Cond.fieldLink RX1 11 "GlacierGuides$History" "states" "[LGlacierGuides$State;") ∈ wsL_law := wch3 _ (List.mem_of_getElem? (i := 6) rfl)
theorem q55 : (Cond.methodLink RX1 17 yX2_init) ∈ wsL_law := wch3 _ (List.mem_of_getElem? (i := 7) rfl)
theorem q56 : (Cond.methodLink RX5 28 yX3_init) ∈ wsL_law := wch3 _ (List.mem_of_getElem? (i := 8) rfl)
theorem q57 : (Cond.instanceMethod yX3_init) ∈ wsL_law := wch3 _ (List.mem_of_getElem? (i := 9) rfl)
theorem q58 : (Cond.code yX3_init cX3_init 1 none) ∈ wsL_law := wch3 _ (List.mem_of_getElem? (i := 10) rfl)
theorem q59 : (Cond.methodLink RX3 3 objectInit) ∈ wsL_law := wch3 _ (List.mem_of_getElem? (i := 11) rfl)
theorem q60 : (Cond.arrayClass .char) ∈ wsL_law := wch3 _ (List.mem_of_getElem? (i := 12) rfl)
theorem q61 : (Cond.fieldLink RX3 9 "GlacierGuides$Text" "characters" "[C") ∈ wsL_law := wch3 _ (List.mem_of_getElem? (i := 13) rfl)
theorem q62 : (Cond.methodLink RL 12 yX6_init) ∈ wsL_law := wch3 _ (List.mem_of_getElem? (i := 14) rfl)
theorem q63 : (Cond.instanceMethod yX6_init) ∈ wsL_law := wch3 _ (List.mem_of_getElem? (i := 15) rfl)
theorem q64 : (Cond.code yX6_init cX6_init 1 none) ∈ wsL_law := wch3 _ (List.mem_of_getElem? (i := 16) rfl)
theorem q65 : (Cond.methodLink RX6 1 objectInit) ∈ wsL_law := wch3 _ (List.mem_of_getElem? (i := 17) rfl)
theorem q66 : (Cond.fieldLink RX6 7 "GlacierGuidesModel" "now" "[I") ∈ wsL_law := wch3 _ (List.mem_of_getElem? (i := 18) rfl)
theorem q67 : (Cond.fieldLink RX6 13 "GlacierGuidesModel" "history" "[I") ∈ wsL_law := wch3 _ (List.mem_of_getElem? (i := 19) rfl)
theorem q68 : (Cond.fieldLink RX6 16 "GlacierGuidesModel" "slot" "[I") ∈ wsL_law := wch3 _ (List.mem_of_getElem? (i := 20) rfl)
theorem q69 : (Cond.fieldLink RX6 19 "GlacierGuidesModel" "real" "[D") ∈ wsL_law := wch3 _ (List.mem_of_getElem? (i := 21) rfl)
theorem q70 : (Cond.fieldLink RX6 23 "GlacierGuidesModel" "realHistory" "[D") ∈ wsL_law := wch3 _ (List.mem_of_getElem? (i := 22) rfl)
theorem q71 : (Cond.fieldLink RX6 26 "GlacierGuidesModel" "realSlot" "[D") ∈ wsL_law := wch3 _ (List.mem_of_getElem? (i := 23) rfl)
theorem q72 : (Cond.fieldLink RX6 29 "GlacierGuidesModel" "text" "[C") ∈ wsL_law := wch4 _ (List.mem_of_getElem? (i := 0) rfl)
theorem q73 : (Cond.methodLink RL 13 yX5_addGuide) ∈ wsL_law := wch4 _ (List.mem_of_getElem? (i := 1) rfl)
theorem q74 : (Cond.instanceMethod yX5_addGuide) ∈ wsL_law := wch4 _ (List.mem_of_getElem? (i := 2) rfl)
theorem q75 : (Cond.selects RX5 yX5_addGuide yX5_addGuide) ∈ wsL_law := wch4 _ (List.mem_of_getElem? (i := 3) rfl)
theorem q76 : (Cond.code yX5_addGuide cX5_addGuide 4 (some .int)) ∈ wsL_law := wch4 _ (List.mem_of_getElem? (i := 4) rfl)
theorem q77 : (Cond.fieldLink RX5 40 "GlacierGuides$State" "guideCount" "I") ∈ wsL_law := wch4 _ (List.mem_of_getElem? (i := 5) rfl)
theorem q78 : (Cond.fieldLink RX5 48 "GlacierGuides$State" "guides" "[LGlacierGuides$Guide;") ∈ wsL_law := wch4 _ (List.mem_of_getElem? (i := 6) rfl)
theorem q79 : (Cond.methodLink RX5 33 yX5_isClass) ∈ wsL_law := wch4 _ (List.mem_of_getElem? (i := 7) rfl)
theorem q80 : (Cond.static yX5_isClass) ∈ wsL_law := wch4 _ (List.mem_of_getElem? (i := 8) rfl)
theorem q81 : (Cond.code yX5_isClass cX5_isClass 1 (some .boolean)) ∈ wsL_law := wch4 _ (List.mem_of_getElem? (i := 9) rfl)
theorem q82 : (Cond.methodLink RX5 37 yX5_isLastDay) ∈ wsL_law := wch4 _ (List.mem_of_getElem? (i := 10) rfl)
theorem q83 : (Cond.static yX5_isLastDay) ∈ wsL_law := wch4 _ (List.mem_of_getElem? (i := 11) rfl)
theorem q84 : (Cond.code yX5_isLastDay cX5_isLastDay 1 (some .boolean)) ∈ wsL_law := wch4 _ (List.mem_of_getElem? (i := 12) rfl)
theorem q85 : (Cond.methodLink RX5 44 yX1_record) ∈ wsL_law := wch4 _ (List.mem_of_getElem? (i := 13) rfl)
theorem q86 : (Cond.instanceMethod yX1_record) ∈ wsL_law := wch4 _ (List.mem_of_getElem? (i := 14) rfl)
theorem q87 : (Cond.selects RX1 yX1_record yX1_record) ∈ wsL_law := wch4 _ (List.mem_of_getElem? (i := 15) rfl)
theorem q88 : (Cond.code yX1_record cX1_record 2 none) ∈ wsL_law := wch4 _ (List.mem_of_getElem? (i := 16) rfl)
theorem q89 : (Cond.fieldLink RX1 18 "GlacierGuides$History" "size" "I") ∈ wsL_law := wch4 _ (List.mem_of_getElem? (i := 17) rfl)
theorem q90 : (Cond.fieldLink RX1 22 "GlacierGuides$History" "oldest" "I") ∈ wsL_law := wch4 _ (List.mem_of_getElem? (i := 18) rfl)
theorem q91 : (Cond.methodLink RX1 25 yX2_copyFrom) ∈ wsL_law := wch4 _ (List.mem_of_getElem? (i := 19) rfl)
theorem q92 : (Cond.instanceMethod yX2_copyFrom) ∈ wsL_law := wch4 _ (List.mem_of_getElem? (i := 20) rfl)
theorem q93 : (Cond.selects RX2 yX2_copyFrom yX2_copyFrom) ∈ wsL_law := wch4 _ (List.mem_of_getElem? (i := 21) rfl)
theorem q94 : (Cond.code yX2_copyFrom cX2_copyFrom 3 none) ∈ wsL_law := wch4 _ (List.mem_of_getElem? (i := 22) rfl)
theorem q95 : (Cond.fieldLink RX2 29 "GlacierGuides$State" "guideCount" "I") ∈ wsL_law := wch4 _ (List.mem_of_getElem? (i := 23) rfl)
theorem q96 : (Cond.methodLink RX2 37 arraycopyName) ∈ wsL_law := wch5 _ (List.mem_of_getElem? (i := 0) rfl)
theorem q97 : (Cond.native arraycopyName) ∈ wsL_law := wch5 _ (List.mem_of_getElem? (i := 1) rfl)
theorem q98 : (Cond.static arraycopyName) ∈ wsL_law := wch5 _ (List.mem_of_getElem? (i := 2) rfl)
theorem q99 : (Cond.initialized "java/lang/System") ∈ wsL_law := wch5 _ (List.mem_of_getElem? (i := 3) rfl)
theorem q100 : (Cond.fieldLink RX2 43 "GlacierGuides$State" "tourCount" "I") ∈ wsL_law := wch5 _ (List.mem_of_getElem? (i := 4) rfl)
theorem q101 : (Cond.fieldLink RX2 49 "GlacierGuides$State" "bridgeCount" "I") ∈ wsL_law := wch5 _ (List.mem_of_getElem? (i := 5) rfl)
theorem q102 : (Cond.fieldLink RX2 52 "GlacierGuides$State" "day" "I") ∈ wsL_law := wch5 _ (List.mem_of_getElem? (i := 6) rfl)
theorem q103 : (Cond.fieldLink RX2 55 "GlacierGuides$State" "degreeBits" "J") ∈ wsL_law := wch5 _ (List.mem_of_getElem? (i := 7) rfl)
theorem q104 : (Cond.fieldLink RX2 59 "GlacierGuides$State" "degrees" "D") ∈ wsL_law := wch5 _ (List.mem_of_getElem? (i := 8) rfl)
theorem q105 : (Cond.fieldLink RX2 63 "GlacierGuides$State" "refunded" "I") ∈ wsL_law := wch5 _ (List.mem_of_getElem? (i := 9) rfl)
theorem q106 : (Cond.methodLink RX2 33 yX0_copyFrom) ∈ wsL_law := wch5 _ (List.mem_of_getElem? (i := 10) rfl)
theorem q107 : (Cond.instanceMethod yX0_copyFrom) ∈ wsL_law := wch5 _ (List.mem_of_getElem? (i := 11) rfl)
theorem q108 : (Cond.selects RX0 yX0_copyFrom yX0_copyFrom) ∈ wsL_law := wch5 _ (List.mem_of_getElem? (i := 12) rfl)
theorem q109 : (Cond.code yX0_copyFrom cX0_copyFrom 2 none) ∈ wsL_law := wch5 _ (List.mem_of_getElem? (i := 13) rfl)
theorem q110 : (Cond.fieldLink RX0 20 "GlacierGuides$Guide" "kind" "I") ∈ wsL_law := wch5 _ (List.mem_of_getElem? (i := 14) rfl)
theorem q111 : (Cond.fieldLink RX0 23 "GlacierGuides$Guide" "until" "I") ∈ wsL_law := wch5 _ (List.mem_of_getElem? (i := 15) rfl)
theorem q112 : (Cond.fieldLink RX0 13 "GlacierGuides$Guide" "toursLed" "I") ∈ wsL_law := wch5 _ (List.mem_of_getElem? (i := 16) rfl)
theorem q113 : (Cond.fieldLink RX0 17 "GlacierGuides$Guide" "guestsLed" "I") ∈ wsL_law := wch5 _ (List.mem_of_getElem? (i := 17) rfl)
theorem q114 : (Cond.methodLink RX0 7 yX0_certify) ∈ wsL_law := wch5 _ (List.mem_of_getElem? (i := 18) rfl)
theorem q115 : (Cond.instanceMethod yX0_certify) ∈ wsL_law := wch5 _ (List.mem_of_getElem? (i := 19) rfl)
theorem q116 : (Cond.selects RX0 yX0_certify yX0_certify) ∈ wsL_law := wch5 _ (List.mem_of_getElem? (i := 20) rfl)
theorem q117 : (Cond.code yX0_certify cX0_certify 3 none) ∈ wsL_law := wch5 _ (List.mem_of_getElem? (i := 21) rfl)
theorem q118 : (Cond.methodLink RX2 46 yX4_copyFrom) ∈ wsL_law := wch5 _ (List.mem_of_getElem? (i := 22) rfl)
theorem q119 : (Cond.instanceMethod yX4_copyFrom) ∈ wsL_law := wch5 _ (List.mem_of_getElem? (i := 23) rfl)
theorem q120 : (Cond.selects RX4 yX4_copyFrom yX4_copyFrom) ∈ wsL_law := wch6 _ (List.mem_of_getElem? (i := 0) rfl)
theorem q121 : (Cond.code yX4_copyFrom cX4_copyFrom 2 none) ∈ wsL_law := wch6 _ (List.mem_of_getElem? (i := 1) rfl)
theorem q122 : (Cond.methodLink RX4 51 arraycopyName) ∈ wsL_law := wch6 _ (List.mem_of_getElem? (i := 2) rfl)
theorem q123 : (Cond.fieldLink RX4 15 "GlacierGuides$Tour" "day" "I") ∈ wsL_law := wch6 _ (List.mem_of_getElem? (i := 3) rfl)
theorem q124 : (Cond.fieldLink RX4 19 "GlacierGuides$Tour" "slope" "D") ∈ wsL_law := wch6 _ (List.mem_of_getElem? (i := 4) rfl)
theorem q125 : (Cond.fieldLink RX4 27 "GlacierGuides$Tour" "base" "I") ∈ wsL_law := wch6 _ (List.mem_of_getElem? (i := 5) rfl)
theorem q126 : (Cond.fieldLink RX4 30 "GlacierGuides$Tour" "price" "I") ∈ wsL_law := wch6 _ (List.mem_of_getElem? (i := 6) rfl)
theorem q127 : (Cond.fieldLink RX4 33 "GlacierGuides$Tour" "bridges" "I") ∈ wsL_law := wch6 _ (List.mem_of_getElem? (i := 7) rfl)
theorem q128 : (Cond.fieldLink RX4 36 "GlacierGuides$Tour" "guests" "I") ∈ wsL_law := wch6 _ (List.mem_of_getElem? (i := 8) rfl)
theorem q129 : (Cond.fieldLink RX4 39 "GlacierGuides$Tour" "guides" "I") ∈ wsL_law := wch6 _ (List.mem_of_getElem? (i := 9) rfl)
theorem q130 : (Cond.fieldLink RX4 42 "GlacierGuides$Tour" "paid" "I") ∈ wsL_law := wch6 _ (List.mem_of_getElem? (i := 10) rfl)
theorem q131 : (Cond.fieldLink RX4 45 "GlacierGuides$Tour" "state" "I") ∈ wsL_law := wch6 _ (List.mem_of_getElem? (i := 11) rfl)
theorem q132 : (Cond.fieldLink RX4 48 "GlacierGuides$Tour" "cause" "I") ∈ wsL_law := wch6 _ (List.mem_of_getElem? (i := 12) rfl)
theorem q133 : (Cond.methodLink RX5 52 yX0_begin) ∈ wsL_law := wch6 _ (List.mem_of_getElem? (i := 13) rfl)
theorem q134 : (Cond.instanceMethod yX0_begin) ∈ wsL_law := wch6 _ (List.mem_of_getElem? (i := 14) rfl)
theorem q135 : (Cond.selects RX0 yX0_begin yX0_begin) ∈ wsL_law := wch6 _ (List.mem_of_getElem? (i := 15) rfl)
theorem q136 : (Cond.code yX0_begin cX0_begin 3 none) ∈ wsL_law := wch6 _ (List.mem_of_getElem? (i := 16) rfl)
theorem q137 : (Cond.methodLink RL 17 yX6_addGuide) ∈ wsL_law := wch6 _ (List.mem_of_getElem? (i := 17) rfl)
theorem q138 : (Cond.instanceMethod yX6_addGuide) ∈ wsL_law := wch6 _ (List.mem_of_getElem? (i := 18) rfl)
theorem q139 : (Cond.selects RX6 yX6_addGuide yX6_addGuide) ∈ wsL_law := wch6 _ (List.mem_of_getElem? (i := 19) rfl)
theorem q140 : (Cond.code yX6_addGuide cX6_addGuide 4 (some .int)) ∈ wsL_law := wch6 _ (List.mem_of_getElem? (i := 20) rfl)
theorem q141 : (Cond.methodLink RX6 45 yX6_isCertificate) ∈ wsL_law := wch6 _ (List.mem_of_getElem? (i := 21) rfl)
theorem q142 : (Cond.static yX6_isCertificate) ∈ wsL_law := wch6 _ (List.mem_of_getElem? (i := 22) rfl)
theorem q143 : (Cond.code yX6_isCertificate cX6_isCertificate 2 (some .boolean)) ∈ wsL_law := wch6 _ (List.mem_of_getElem? (i := 23) rfl)
theorem q144 : (Cond.methodLink RX6 37 yX6_in) ∈ wsL_law := wch7 _ (List.mem_of_getElem? (i := 0) rfl)
theorem q145 : (Cond.static yX6_in) ∈ wsL_law := wch7 _ (List.mem_of_getElem? (i := 1) rfl)
theorem q146 : (Cond.code yX6_in cX6_in 3 (some .boolean)) ∈ wsL_law := wch7 _ (List.mem_of_getElem? (i := 2) rfl)
theorem q147 : (Cond.methodLink RX6 49 yX6_record) ∈ wsL_law := wch7 _ (List.mem_of_getElem? (i := 3) rfl)
theorem q148 : (Cond.instanceMethod yX6_record) ∈ wsL_law := wch7 _ (List.mem_of_getElem? (i := 4) rfl)
theorem q149 : (Cond.selects RX6 yX6_record yX6_record) ∈ wsL_law := wch7 _ (List.mem_of_getElem? (i := 5) rfl)
theorem q150 : (Cond.code yX6_record cX6_record 2 none) ∈ wsL_law := wch7 _ (List.mem_of_getElem? (i := 6) rfl)
theorem q151 : (Cond.fieldLink RX6 33 "GlacierGuidesModel" "kept" "I") ∈ wsL_law := wch7 _ (List.mem_of_getElem? (i := 7) rfl)
theorem q152 : (Cond.methodLink RL 18 yX5_renew) ∈ wsL_law := wch7 _ (List.mem_of_getElem? (i := 8) rfl)
theorem q153 : (Cond.instanceMethod yX5_renew) ∈ wsL_law := wch7 _ (List.mem_of_getElem? (i := 9) rfl)
theorem q154 : (Cond.selects RX5 yX5_renew yX5_renew) ∈ wsL_law := wch7 _ (List.mem_of_getElem? (i := 10) rfl)
theorem q155 : (Cond.code yX5_renew cX5_renew 6 (some .int)) ∈ wsL_law := wch7 _ (List.mem_of_getElem? (i := 11) rfl)
theorem q156 : (Cond.fieldLink RX5 62 "GlacierGuides$Guide" "kind" "I") ∈ wsL_law := wch7 _ (List.mem_of_getElem? (i := 12) rfl)
theorem q157 : (Cond.fieldLink RX5 65 "GlacierGuides$Guide" "until" "I") ∈ wsL_law := wch7 _ (List.mem_of_getElem? (i := 13) rfl)
theorem q158 : (Cond.methodLink RX5 58 yX2_guideAt) ∈ wsL_law := wch7 _ (List.mem_of_getElem? (i := 14) rfl)
theorem q159 : (Cond.instanceMethod yX2_guideAt) ∈ wsL_law := wch7 _ (List.mem_of_getElem? (i := 15) rfl)
theorem q160 : (Cond.selects RX2 yX2_guideAt yX2_guideAt) ∈ wsL_law := wch7 _ (List.mem_of_getElem? (i := 16) rfl)
theorem q161 : (Cond.code yX2_guideAt cX2_guideAt 2 (some (.object "GlacierGuides$Guide"))) ∈ wsL_law := wch7 _ (List.mem_of_getElem? (i := 17) rfl)
theorem q162 : (Cond.methodLink RX5 68 yX0_certify) ∈ wsL_law := wch7 _ (List.mem_of_getElem? (i := 18) rfl)
theorem q163 : (Cond.methodLink RL 22 yX6_renew) ∈ wsL_law := wch7 _ (List.mem_of_getElem? (i := 19) rfl)
theorem q164 : (Cond.instanceMethod yX6_renew) ∈ wsL_law := wch7 _ (List.mem_of_getElem? (i := 20) rfl)
theorem q165 : (Cond.selects RX6 yX6_renew yX6_renew) ∈ wsL_law := wch7 _ (List.mem_of_getElem? (i := 21) rfl)
theorem q166 : (Cond.code yX6_renew cX6_renew 5 (some .int)) ∈ wsL_law := wch7 _ (List.mem_of_getElem? (i := 22) rfl)
theorem q167 : (Cond.methodLink RX6 52 yX6_noGuide) ∈ wsL_law := wch7 _ (List.mem_of_getElem? (i := 23) rfl)
theorem q168 : (Cond.instanceMethod yX6_noGuide) ∈ wsL_law := wch8 _ (List.mem_of_getElem? (i := 0) rfl)
theorem q169 : (Cond.selects RX6 yX6_noGuide yX6_noGuide) ∈ wsL_law := wch8 _ (List.mem_of_getElem? (i := 1) rfl)
theorem q170 : (Cond.code yX6_noGuide cX6_noGuide 2 (some .boolean)) ∈ wsL_law := wch8 _ (List.mem_of_getElem? (i := 2) rfl)
theorem q171 : (Cond.methodLink RX6 56 yX6_ofGuide) ∈ wsL_law := wch8 _ (List.mem_of_getElem? (i := 3) rfl)
theorem q172 : (Cond.instanceMethod yX6_ofGuide) ∈ wsL_law := wch8 _ (List.mem_of_getElem? (i := 4) rfl)
theorem q173 : (Cond.selects RX6 yX6_ofGuide yX6_ofGuide) ∈ wsL_law := wch8 _ (List.mem_of_getElem? (i := 5) rfl)
theorem q174 : (Cond.code yX6_ofGuide cX6_ofGuide 3 (some .int)) ∈ wsL_law := wch8 _ (List.mem_of_getElem? (i := 6) rfl)
theorem q175 : (Cond.methodLink RL 25 yX5_addBridge) ∈ wsL_law := wch8 _ (List.mem_of_getElem? (i := 7) rfl)
theorem q176 : (Cond.instanceMethod yX5_addBridge) ∈ wsL_law := wch8 _ (List.mem_of_getElem? (i := 8) rfl)
theorem q177 : (Cond.selects RX5 yX5_addBridge yX5_addBridge) ∈ wsL_law := wch8 _ (List.mem_of_getElem? (i := 9) rfl)
theorem q178 : (Cond.code yX5_addBridge cX5_addBridge 4 (some .int)) ∈ wsL_law := wch8 _ (List.mem_of_getElem? (i := 10) rfl)
theorem q179 : (Cond.constantLong RX5 71 (4647503709213818880)) ∈ wsL_law := wch8 _ (List.mem_of_getElem? (i := 11) rfl)
theorem q180 : (Cond.fieldLink RX5 77 "GlacierGuides$State" "bridgeCount" "I") ∈ wsL_law := wch8 _ (List.mem_of_getElem? (i := 12) rfl)
theorem q181 : (Cond.fieldLink RX5 80 "GlacierGuides$State" "thicknesses" "[D") ∈ wsL_law := wch8 _ (List.mem_of_getElem? (i := 13) rfl)
theorem q182 : (Cond.methodLink RX5 73 yX5_isFromZeroTo) ∈ wsL_law := wch8 _ (List.mem_of_getElem? (i := 14) rfl)
theorem q183 : (Cond.static yX5_isFromZeroTo) ∈ wsL_law := wch8 _ (List.mem_of_getElem? (i := 15) rfl)
theorem q184 : (Cond.code yX5_isFromZeroTo cX5_isFromZeroTo 4 (some .boolean)) ∈ wsL_law := wch8 _ (List.mem_of_getElem? (i := 16) rfl)
theorem q185 : (Cond.methodLink RX5 84 yX5_numberOf) ∈ wsL_law := wch8 _ (List.mem_of_getElem? (i := 17) rfl)
theorem q186 : (Cond.static yX5_numberOf) ∈ wsL_law := wch8 _ (List.mem_of_getElem? (i := 18) rfl)
theorem q187 : (Cond.code yX5_numberOf cX5_numberOf 7 (some .double)) ∈ wsL_law := wch8 _ (List.mem_of_getElem? (i := 19) rfl)
theorem q188 : (Cond.constantLong RX5 300 (4503599627370495)) ∈ wsL_law := wch8 _ (List.mem_of_getElem? (i := 20) rfl)
theorem q189 : (Cond.constantLong RX5 306 (4503599627370496)) ∈ wsL_law := wch8 _ (List.mem_of_getElem? (i := 21) rfl)
theorem q190 : (Cond.methodLink RX5 302 yX5_halved) ∈ wsL_law := wch8 _ (List.mem_of_getElem? (i := 22) rfl)
theorem q191 : (Cond.static yX5_halved) ∈ wsL_law := wch8 _ (List.mem_of_getElem? (i := 23) rfl)
theorem q192 : (Cond.code yX5_halved cX5_halved 6 (some .double)) ∈ wsL_law := wch9 _ (List.mem_of_getElem? (i := 0) rfl)
theorem q193 : (Cond.constantDouble RX5 308 (4602678819172646912)) ∈ wsL_law := wch9 _ (List.mem_of_getElem? (i := 1) rfl)
theorem q194 : (Cond.methodLink RL 29 yX6_addBridge) ∈ wsL_law := wch9 _ (List.mem_of_getElem? (i := 2) rfl)
theorem q195 : (Cond.instanceMethod yX6_addBridge) ∈ wsL_law := wch9 _ (List.mem_of_getElem? (i := 3) rfl)
theorem q196 : (Cond.selects RX6 yX6_addBridge yX6_addBridge) ∈ wsL_law := wch9 _ (List.mem_of_getElem? (i := 4) rfl)
theorem q197 : (Cond.code yX6_addBridge cX6_addBridge 3 (some .int)) ∈ wsL_law := wch9 _ (List.mem_of_getElem? (i := 5) rfl)
theorem q198 : (Cond.constantDouble RX6 67 (4647503709213818880)) ∈ wsL_law := wch9 _ (List.mem_of_getElem? (i := 6) rfl)
theorem q199 : (Cond.methodLink RX6 61 ⟨"java/lang/Double", "longBitsToDouble", "(J)D"⟩) ∈ wsL_law := wch9 _ (List.mem_of_getElem? (i := 7) rfl)
theorem q200 : (Cond.native ⟨"java/lang/Double", "longBitsToDouble", "(J)D"⟩) ∈ wsL_law := wch9 _ (List.mem_of_getElem? (i := 8) rfl)
theorem q201 : (Cond.static ⟨"java/lang/Double", "longBitsToDouble", "(J)D"⟩) ∈ wsL_law := wch9 _ (List.mem_of_getElem? (i := 9) rfl)
theorem q202 : (Cond.initialized "java/lang/Double") ∈ wsL_law := wch9 _ (List.mem_of_getElem? (i := 10) rfl)
theorem q203 : (Cond.methodLink RX6 69 yX6_isUpTo) ∈ wsL_law := wch9 _ (List.mem_of_getElem? (i := 11) rfl)
theorem q204 : (Cond.static yX6_isUpTo) ∈ wsL_law := wch9 _ (List.mem_of_getElem? (i := 12) rfl)
theorem q205 : (Cond.code yX6_isUpTo cX6_isUpTo 6 (some .boolean)) ∈ wsL_law := wch9 _ (List.mem_of_getElem? (i := 13) rfl)
theorem q206 : (Cond.constantLong RX6 59 (9218868437227405312)) ∈ wsL_law := wch9 _ (List.mem_of_getElem? (i := 14) rfl)
theorem q207 : (Cond.methodLink RL 30 yX5_setTemperature) ∈ wsL_law := wch9 _ (List.mem_of_getElem? (i := 15) rfl)
theorem q208 : (Cond.instanceMethod yX5_setTemperature) ∈ wsL_law := wch9 _ (List.mem_of_getElem? (i := 16) rfl)
theorem q209 : (Cond.selects RX5 yX5_setTemperature yX5_setTemperature) ∈ wsL_law := wch9 _ (List.mem_of_getElem? (i := 17) rfl)
theorem q210 : (Cond.code yX5_setTemperature cX5_setTemperature 5 (some .int)) ∈ wsL_law := wch9 _ (List.mem_of_getElem? (i := 18) rfl)
theorem q211 : (Cond.fieldLink RX5 92 "GlacierGuides$State" "degrees" "D") ∈ wsL_law := wch9 _ (List.mem_of_getElem? (i := 19) rfl)
theorem q212 : (Cond.fieldLink RX5 96 "GlacierGuides$State" "degreeBits" "J") ∈ wsL_law := wch9 _ (List.mem_of_getElem? (i := 20) rfl)
theorem q213 : (Cond.methodLink RX5 88 yX5_isTemperature) ∈ wsL_law := wch9 _ (List.mem_of_getElem? (i := 21) rfl)
theorem q214 : (Cond.static yX5_isTemperature) ∈ wsL_law := wch9 _ (List.mem_of_getElem? (i := 22) rfl)
theorem q215 : (Cond.code yX5_isTemperature cX5_isTemperature 2 (some .boolean)) ∈ wsL_law := wch9 _ (List.mem_of_getElem? (i := 23) rfl)
theorem q216 : (Cond.constantLong RX5 294 (4630826316843712512)) ∈ wsL_law := wch10 _ (List.mem_of_getElem? (i := 0) rfl)
theorem q217 : (Cond.constantLong RX5 296 (9223372036854775807)) ∈ wsL_law := wch10 _ (List.mem_of_getElem? (i := 1) rfl)
theorem q218 : (Cond.constantLong RX5 298 (4629137466983448576)) ∈ wsL_law := wch10 _ (List.mem_of_getElem? (i := 2) rfl)
theorem q219 : (Cond.methodLink RL 33 yX6_setTemperature) ∈ wsL_law := wch10 _ (List.mem_of_getElem? (i := 3) rfl)
theorem q220 : (Cond.instanceMethod yX6_setTemperature) ∈ wsL_law := wch10 _ (List.mem_of_getElem? (i := 4) rfl)
theorem q221 : (Cond.selects RX6 yX6_setTemperature yX6_setTemperature) ∈ wsL_law := wch10 _ (List.mem_of_getElem? (i := 5) rfl)
theorem q222 : (Cond.code yX6_setTemperature cX6_setTemperature 6 (some .int)) ∈ wsL_law := wch10 _ (List.mem_of_getElem? (i := 6) rfl)
theorem q223 : (Cond.constantLong RX6 73 (9223372036854775807)) ∈ wsL_law := wch10 _ (List.mem_of_getElem? (i := 7) rfl)
theorem q224 : (Cond.constantDouble RX6 75 (13854198353698488320)) ∈ wsL_law := wch10 _ (List.mem_of_getElem? (i := 8) rfl)
theorem q225 : (Cond.constantDouble RX6 77 (4629137466983448576)) ∈ wsL_law := wch10 _ (List.mem_of_getElem? (i := 9) rfl)
theorem q226 : (Cond.methodLink RL 34 yX5_addTour) ∈ wsL_law := wch10 _ (List.mem_of_getElem? (i := 10) rfl)
theorem q227 : (Cond.instanceMethod yX5_addTour) ∈ wsL_law := wch10 _ (List.mem_of_getElem? (i := 11) rfl)
theorem q228 : (Cond.selects RX5 yX5_addTour yX5_addTour) ∈ wsL_law := wch10 _ (List.mem_of_getElem? (i := 12) rfl)
theorem q229 : (Cond.code yX5_addTour cX5_addTour 7 (some .int)) ∈ wsL_law := wch10 _ (List.mem_of_getElem? (i := 13) rfl)
theorem q230 : (Cond.fieldLink RX5 100 "GlacierGuides$State" "day" "I") ∈ wsL_law := wch10 _ (List.mem_of_getElem? (i := 14) rfl)
theorem q231 : (Cond.constantLong RX5 103 (4633641066610819072)) ∈ wsL_law := wch10 _ (List.mem_of_getElem? (i := 15) rfl)
theorem q232 : (Cond.fieldLink RX5 108 "GlacierGuides$State" "tourCount" "I") ∈ wsL_law := wch10 _ (List.mem_of_getElem? (i := 16) rfl)
theorem q233 : (Cond.fieldLink RX5 111 "GlacierGuides$State" "tours" "[LGlacierGuides$Tour;") ∈ wsL_law := wch10 _ (List.mem_of_getElem? (i := 17) rfl)
theorem q234 : (Cond.methodLink RX5 105 yX2_hasBridges) ∈ wsL_law := wch10 _ (List.mem_of_getElem? (i := 18) rfl)
theorem q235 : (Cond.instanceMethod yX2_hasBridges) ∈ wsL_law := wch10 _ (List.mem_of_getElem? (i := 19) rfl)
theorem q236 : (Cond.selects RX2 yX2_hasBridges yX2_hasBridges) ∈ wsL_law := wch10 _ (List.mem_of_getElem? (i := 20) rfl)
theorem q237 : (Cond.code yX2_hasBridges cX2_hasBridges 2 (some .boolean)) ∈ wsL_law := wch10 _ (List.mem_of_getElem? (i := 21) rfl)
theorem q238 : (Cond.methodLink RX5 115 yX4_begin) ∈ wsL_law := wch10 _ (List.mem_of_getElem? (i := 22) rfl)
theorem q239 : (Cond.instanceMethod yX4_begin) ∈ wsL_law := wch10 _ (List.mem_of_getElem? (i := 23) rfl)
theorem q240 : (Cond.selects RX4 yX4_begin yX4_begin) ∈ wsL_law := wch11 _ (List.mem_of_getElem? (i := 0) rfl)
theorem q241 : (Cond.code yX4_begin cX4_begin 6 none) ∈ wsL_law := wch11 _ (List.mem_of_getElem? (i := 1) rfl)
theorem q242 : (Cond.methodLink RX4 23 yX4_baseOf) ∈ wsL_law := wch11 _ (List.mem_of_getElem? (i := 2) rfl)
theorem q243 : (Cond.static yX4_baseOf) ∈ wsL_law := wch11 _ (List.mem_of_getElem? (i := 3) rfl)
theorem q244 : (Cond.code yX4_baseOf cX4_baseOf 2 (some .int)) ∈ wsL_law := wch11 _ (List.mem_of_getElem? (i := 4) rfl)
theorem q245 : (Cond.constantDouble RX4 57 (4624633867356078080)) ∈ wsL_law := wch11 _ (List.mem_of_getElem? (i := 5) rfl)
theorem q246 : (Cond.constantDouble RX4 59 (4629137466983448576)) ∈ wsL_law := wch11 _ (List.mem_of_getElem? (i := 6) rfl)
theorem q247 : (Cond.constantDouble RX4 61 (4631530004285489152)) ∈ wsL_law := wch11 _ (List.mem_of_getElem? (i := 7) rfl)
theorem q248 : (Cond.methodLink RL 38 yX6_addTour) ∈ wsL_law := wch11 _ (List.mem_of_getElem? (i := 8) rfl)
theorem q249 : (Cond.instanceMethod yX6_addTour) ∈ wsL_law := wch11 _ (List.mem_of_getElem? (i := 9) rfl)
theorem q250 : (Cond.selects RX6 yX6_addTour yX6_addTour) ∈ wsL_law := wch11 _ (List.mem_of_getElem? (i := 10) rfl)
theorem q251 : (Cond.code yX6_addTour cX6_addTour 8 (some .int)) ∈ wsL_law := wch11 _ (List.mem_of_getElem? (i := 11) rfl)
theorem q252 : (Cond.constantDouble RX6 108 (4633641066610819072)) ∈ wsL_law := wch11 _ (List.mem_of_getElem? (i := 12) rfl)
theorem q253 : (Cond.methodLink RX6 110 yX6_to) ∈ wsL_law := wch11 _ (List.mem_of_getElem? (i := 13) rfl)
theorem q254 : (Cond.instanceMethod yX6_to) ∈ wsL_law := wch11 _ (List.mem_of_getElem? (i := 14) rfl)
theorem q255 : (Cond.selects RX6 yX6_to yX6_to) ∈ wsL_law := wch11 _ (List.mem_of_getElem? (i := 15) rfl)
theorem q256 : (Cond.code yX6_to cX6_to 4 none) ∈ wsL_law := wch11 _ (List.mem_of_getElem? (i := 16) rfl)
theorem q257 : (Cond.methodLink RL 39 yX5_book) ∈ wsL_law := wch11 _ (List.mem_of_getElem? (i := 17) rfl)
theorem q258 : (Cond.instanceMethod yX5_book) ∈ wsL_law := wch11 _ (List.mem_of_getElem? (i := 18) rfl)
theorem q259 : (Cond.selects RX5 yX5_book yX5_book) ∈ wsL_law := wch11 _ (List.mem_of_getElem? (i := 19) rfl)
theorem q260 : (Cond.code yX5_book cX5_book 5 (some .int)) ∈ wsL_law := wch11 _ (List.mem_of_getElem? (i := 20) rfl)
theorem q261 : (Cond.fieldLink RX5 127 "GlacierGuides$Tour" "state" "I") ∈ wsL_law := wch11 _ (List.mem_of_getElem? (i := 21) rfl)
theorem q262 : (Cond.fieldLink RX5 130 "GlacierGuides$Tour" "guests" "I") ∈ wsL_law := wch11 _ (List.mem_of_getElem? (i := 22) rfl)
theorem q263 : (Cond.fieldLink RX5 133 "GlacierGuides$Tour" "price" "I") ∈ wsL_law := wch11 _ (List.mem_of_getElem? (i := 23) rfl)
theorem q264 : (Cond.fieldLink RX5 136 "GlacierGuides$Tour" "paid" "I") ∈ wsL_law := wch12 _ (List.mem_of_getElem? (i := 0) rfl)
theorem q265 : (Cond.methodLink RX5 120 yX2_tourAt) ∈ wsL_law := wch12 _ (List.mem_of_getElem? (i := 1) rfl)
theorem q266 : (Cond.instanceMethod yX2_tourAt) ∈ wsL_law := wch12 _ (List.mem_of_getElem? (i := 2) rfl)
theorem q267 : (Cond.selects RX2 yX2_tourAt yX2_tourAt) ∈ wsL_law := wch12 _ (List.mem_of_getElem? (i := 3) rfl)
theorem q268 : (Cond.code yX2_tourAt cX2_tourAt 2 (some (.object "GlacierGuides$Tour"))) ∈ wsL_law := wch12 _ (List.mem_of_getElem? (i := 4) rfl)
theorem q269 : (Cond.methodLink RX5 124 yX5_isGuests) ∈ wsL_law := wch12 _ (List.mem_of_getElem? (i := 5) rfl)
theorem q270 : (Cond.static yX5_isGuests) ∈ wsL_law := wch12 _ (List.mem_of_getElem? (i := 6) rfl)
theorem q271 : (Cond.code yX5_isGuests cX5_isGuests 1 (some .boolean)) ∈ wsL_law := wch12 _ (List.mem_of_getElem? (i := 7) rfl)
theorem q272 : (Cond.methodLink RL 42 yX6_book) ∈ wsL_law := wch12 _ (List.mem_of_getElem? (i := 8) rfl)
theorem q273 : (Cond.instanceMethod yX6_book) ∈ wsL_law := wch12 _ (List.mem_of_getElem? (i := 9) rfl)
theorem q274 : (Cond.selects RX6 yX6_book yX6_book) ∈ wsL_law := wch12 _ (List.mem_of_getElem? (i := 10) rfl)
theorem q275 : (Cond.code yX6_book cX6_book 4 (some .int)) ∈ wsL_law := wch12 _ (List.mem_of_getElem? (i := 11) rfl)
theorem q276 : (Cond.methodLink RX6 114 yX6_noTour) ∈ wsL_law := wch12 _ (List.mem_of_getElem? (i := 12) rfl)
theorem q277 : (Cond.instanceMethod yX6_noTour) ∈ wsL_law := wch12 _ (List.mem_of_getElem? (i := 13) rfl)
theorem q278 : (Cond.selects RX6 yX6_noTour yX6_noTour) ∈ wsL_law := wch12 _ (List.mem_of_getElem? (i := 14) rfl)
theorem q279 : (Cond.code yX6_noTour cX6_noTour 2 (some .boolean)) ∈ wsL_law := wch12 _ (List.mem_of_getElem? (i := 15) rfl)
theorem q280 : (Cond.methodLink RX6 117 yX6_isOpen) ∈ wsL_law := wch12 _ (List.mem_of_getElem? (i := 16) rfl)
theorem q281 : (Cond.instanceMethod yX6_isOpen) ∈ wsL_law := wch12 _ (List.mem_of_getElem? (i := 17) rfl)
theorem q282 : (Cond.selects RX6 yX6_isOpen yX6_isOpen) ∈ wsL_law := wch12 _ (List.mem_of_getElem? (i := 18) rfl)
theorem q283 : (Cond.code yX6_isOpen cX6_isOpen 2 (some .boolean)) ∈ wsL_law := wch12 _ (List.mem_of_getElem? (i := 19) rfl)
theorem q284 : (Cond.methodLink RX6 41 yX6_of) ∈ wsL_law := wch12 _ (List.mem_of_getElem? (i := 20) rfl)
theorem q285 : (Cond.instanceMethod yX6_of) ∈ wsL_law := wch12 _ (List.mem_of_getElem? (i := 21) rfl)
theorem q286 : (Cond.selects RX6 yX6_of yX6_of) ∈ wsL_law := wch12 _ (List.mem_of_getElem? (i := 22) rfl)
theorem q287 : (Cond.code yX6_of cX6_of 3 (some .int)) ∈ wsL_law := wch12 _ (List.mem_of_getElem? (i := 23) rfl)
theorem q288 : (Cond.methodLink RL 43 yX5_leave) ∈ wsL_law := wch13 _ (List.mem_of_getElem? (i := 0) rfl)
theorem q289 : (Cond.instanceMethod yX5_leave) ∈ wsL_law := wch13 _ (List.mem_of_getElem? (i := 1) rfl)
theorem q290 : (Cond.selects RX5 yX5_leave yX5_leave) ∈ wsL_law := wch13 _ (List.mem_of_getElem? (i := 2) rfl)
theorem q291 : (Cond.code yX5_leave cX5_leave 5 (some .int)) ∈ wsL_law := wch13 _ (List.mem_of_getElem? (i := 3) rfl)
theorem q292 : (Cond.methodLink RX5 139 yX4_refundFor) ∈ wsL_law := wch13 _ (List.mem_of_getElem? (i := 4) rfl)
theorem q293 : (Cond.instanceMethod yX4_refundFor) ∈ wsL_law := wch13 _ (List.mem_of_getElem? (i := 5) rfl)
theorem q294 : (Cond.selects RX4 yX4_refundFor yX4_refundFor) ∈ wsL_law := wch13 _ (List.mem_of_getElem? (i := 6) rfl)
theorem q295 : (Cond.code yX4_refundFor cX4_refundFor 3 (some .int)) ∈ wsL_law := wch13 _ (List.mem_of_getElem? (i := 7) rfl)
theorem q296 : (Cond.methodLink RX4 63 yX4_shareAt) ∈ wsL_law := wch13 _ (List.mem_of_getElem? (i := 8) rfl)
theorem q297 : (Cond.static yX4_shareAt) ∈ wsL_law := wch13 _ (List.mem_of_getElem? (i := 9) rfl)
theorem q298 : (Cond.code yX4_shareAt cX4_shareAt 1 (some .double)) ∈ wsL_law := wch13 _ (List.mem_of_getElem? (i := 10) rfl)
theorem q299 : (Cond.constantDouble RX4 67 (4604930618986332160)) ∈ wsL_law := wch13 _ (List.mem_of_getElem? (i := 11) rfl)
theorem q300 : (Cond.constantDouble RX4 69 (4602678819172646912)) ∈ wsL_law := wch13 _ (List.mem_of_getElem? (i := 12) rfl)
theorem q301 : (Cond.methodLink RX5 143 yX2_payBack) ∈ wsL_law := wch13 _ (List.mem_of_getElem? (i := 13) rfl)
theorem q302 : (Cond.instanceMethod yX2_payBack) ∈ wsL_law := wch13 _ (List.mem_of_getElem? (i := 14) rfl)
theorem q303 : (Cond.selects RX2 yX2_payBack yX2_payBack) ∈ wsL_law := wch13 _ (List.mem_of_getElem? (i := 15) rfl)
theorem q304 : (Cond.code yX2_payBack cX2_payBack 3 none) ∈ wsL_law := wch13 _ (List.mem_of_getElem? (i := 16) rfl)
theorem q305 : (Cond.fieldLink RX2 149 "GlacierGuides$Tour" "paid" "I") ∈ wsL_law := wch13 _ (List.mem_of_getElem? (i := 17) rfl)
theorem q306 : (Cond.methodLink RL 46 yX6_leave) ∈ wsL_law := wch13 _ (List.mem_of_getElem? (i := 18) rfl)
theorem q307 : (Cond.instanceMethod yX6_leave) ∈ wsL_law := wch13 _ (List.mem_of_getElem? (i := 19) rfl)
theorem q308 : (Cond.selects RX6 yX6_leave yX6_leave) ∈ wsL_law := wch13 _ (List.mem_of_getElem? (i := 20) rfl)
theorem q309 : (Cond.code yX6_leave cX6_leave 7 (some .int)) ∈ wsL_law := wch13 _ (List.mem_of_getElem? (i := 21) rfl)
theorem q310 : (Cond.constantDouble RX6 120 (4604930618986332160)) ∈ wsL_law := wch13 _ (List.mem_of_getElem? (i := 22) rfl)
theorem q311 : (Cond.constantDouble RX6 122 (4602678819172646912)) ∈ wsL_law := wch13 _ (List.mem_of_getElem? (i := 23) rfl)
theorem q312 : (Cond.methodLink RX6 124 yX6_refunds) ∈ wsL_law := wch14 _ (List.mem_of_getElem? (i := 0) rfl)
theorem q313 : (Cond.instanceMethod yX6_refunds) ∈ wsL_law := wch14 _ (List.mem_of_getElem? (i := 1) rfl)
theorem q314 : (Cond.selects RX6 yX6_refunds yX6_refunds) ∈ wsL_law := wch14 _ (List.mem_of_getElem? (i := 2) rfl)
theorem q315 : (Cond.code yX6_refunds cX6_refunds 3 none) ∈ wsL_law := wch14 _ (List.mem_of_getElem? (i := 3) rfl)
theorem q316 : (Cond.methodLink RL 47 yX5_lead) ∈ wsL_law := wch14 _ (List.mem_of_getElem? (i := 4) rfl)
theorem q317 : (Cond.instanceMethod yX5_lead) ∈ wsL_law := wch14 _ (List.mem_of_getElem? (i := 5) rfl)
theorem q318 : (Cond.selects RX5 yX5_lead yX5_lead) ∈ wsL_law := wch14 _ (List.mem_of_getElem? (i := 6) rfl)
theorem q319 : (Cond.code yX5_lead cX5_lead 4 (some .int)) ∈ wsL_law := wch14 _ (List.mem_of_getElem? (i := 7) rfl)
theorem q320 : (Cond.fieldLink RX5 151 "GlacierGuides$Tour" "guides" "I") ∈ wsL_law := wch14 _ (List.mem_of_getElem? (i := 8) rfl)
theorem q321 : (Cond.methodLink RX5 147 yX2_mayLead) ∈ wsL_law := wch14 _ (List.mem_of_getElem? (i := 9) rfl)
theorem q322 : (Cond.instanceMethod yX2_mayLead) ∈ wsL_law := wch14 _ (List.mem_of_getElem? (i := 10) rfl)
theorem q323 : (Cond.selects RX2 yX2_mayLead yX2_mayLead) ∈ wsL_law := wch14 _ (List.mem_of_getElem? (i := 11) rfl)
theorem q324 : (Cond.code yX2_mayLead cX2_mayLead 3 (some .boolean)) ∈ wsL_law := wch14 _ (List.mem_of_getElem? (i := 12) rfl)
theorem q325 : (Cond.fieldLink RX2 66 "GlacierGuides$Tour" "state" "I") ∈ wsL_law := wch14 _ (List.mem_of_getElem? (i := 13) rfl)
theorem q326 : (Cond.fieldLink RX2 69 "GlacierGuides$Tour" "day" "I") ∈ wsL_law := wch14 _ (List.mem_of_getElem? (i := 14) rfl)
theorem q327 : (Cond.methodLink RX2 70 yX0_isValidOn) ∈ wsL_law := wch14 _ (List.mem_of_getElem? (i := 15) rfl)
theorem q328 : (Cond.instanceMethod yX0_isValidOn) ∈ wsL_law := wch14 _ (List.mem_of_getElem? (i := 16) rfl)
theorem q329 : (Cond.selects RX0 yX0_isValidOn yX0_isValidOn) ∈ wsL_law := wch14 _ (List.mem_of_getElem? (i := 17) rfl)
theorem q330 : (Cond.code yX0_isValidOn cX0_isValidOn 2 (some .boolean)) ∈ wsL_law := wch14 _ (List.mem_of_getElem? (i := 18) rfl)
theorem q331 : (Cond.methodLink RX2 74 yX2_isBusyOn) ∈ wsL_law := wch14 _ (List.mem_of_getElem? (i := 19) rfl)
theorem q332 : (Cond.instanceMethod yX2_isBusyOn) ∈ wsL_law := wch14 _ (List.mem_of_getElem? (i := 20) rfl)
theorem q333 : (Cond.selects RX2 yX2_isBusyOn yX2_isBusyOn) ∈ wsL_law := wch14 _ (List.mem_of_getElem? (i := 21) rfl)
theorem q334 : (Cond.code yX2_isBusyOn cX2_isBusyOn 4 (some .boolean)) ∈ wsL_law := wch14 _ (List.mem_of_getElem? (i := 22) rfl)
theorem q335 : (Cond.methodLink RX2 78 yX4_hasInRow) ∈ wsL_law := wch14 _ (List.mem_of_getElem? (i := 23) rfl)
theorem q336 : (Cond.instanceMethod yX4_hasInRow) ∈ wsL_law := wch15 _ (List.mem_of_getElem? (i := 0) rfl)
theorem q337 : (Cond.selects RX4 yX4_hasInRow yX4_hasInRow) ∈ wsL_law := wch15 _ (List.mem_of_getElem? (i := 1) rfl)
theorem q338 : (Cond.code yX4_hasInRow cX4_hasInRow 3 (some .boolean)) ∈ wsL_law := wch15 _ (List.mem_of_getElem? (i := 2) rfl)
theorem q339 : (Cond.methodLink RX5 153 yX4_addToRow) ∈ wsL_law := wch15 _ (List.mem_of_getElem? (i := 3) rfl)
theorem q340 : (Cond.instanceMethod yX4_addToRow) ∈ wsL_law := wch15 _ (List.mem_of_getElem? (i := 4) rfl)
theorem q341 : (Cond.selects RX4 yX4_addToRow yX4_addToRow) ∈ wsL_law := wch15 _ (List.mem_of_getElem? (i := 5) rfl)
theorem q342 : (Cond.code yX4_addToRow cX4_addToRow 2 none) ∈ wsL_law := wch15 _ (List.mem_of_getElem? (i := 6) rfl)
theorem q343 : (Cond.methodLink RX5 157 yX2_ratioOf) ∈ wsL_law := wch15 _ (List.mem_of_getElem? (i := 7) rfl)
theorem q344 : (Cond.instanceMethod yX2_ratioOf) ∈ wsL_law := wch15 _ (List.mem_of_getElem? (i := 8) rfl)
theorem q345 : (Cond.selects RX2 yX2_ratioOf yX2_ratioOf) ∈ wsL_law := wch15 _ (List.mem_of_getElem? (i := 9) rfl)
theorem q346 : (Cond.code yX2_ratioOf cX2_ratioOf 4 (some .int)) ∈ wsL_law := wch15 _ (List.mem_of_getElem? (i := 10) rfl)
theorem q347 : (Cond.fieldLink RX2 81 "GlacierGuides$Tour" "base" "I") ∈ wsL_law := wch15 _ (List.mem_of_getElem? (i := 11) rfl)
theorem q348 : (Cond.fieldLink RX2 84 "GlacierGuides$Guide" "kind" "I") ∈ wsL_law := wch15 _ (List.mem_of_getElem? (i := 12) rfl)
theorem q349 : (Cond.methodLink RL 50 yX6_lead) ∈ wsL_law := wch15 _ (List.mem_of_getElem? (i := 13) rfl)
theorem q350 : (Cond.instanceMethod yX6_lead) ∈ wsL_law := wch15 _ (List.mem_of_getElem? (i := 14) rfl)
theorem q351 : (Cond.selects RX6 yX6_lead yX6_lead) ∈ wsL_law := wch15 _ (List.mem_of_getElem? (i := 15) rfl)
theorem q352 : (Cond.code yX6_lead cX6_lead 3 (some .int)) ∈ wsL_law := wch15 _ (List.mem_of_getElem? (i := 16) rfl)
theorem q353 : (Cond.methodLink RX6 134 yX6_mayLead) ∈ wsL_law := wch15 _ (List.mem_of_getElem? (i := 17) rfl)
theorem q354 : (Cond.instanceMethod yX6_mayLead) ∈ wsL_law := wch15 _ (List.mem_of_getElem? (i := 18) rfl)
theorem q355 : (Cond.selects RX6 yX6_mayLead yX6_mayLead) ∈ wsL_law := wch15 _ (List.mem_of_getElem? (i := 19) rfl)
theorem q356 : (Cond.code yX6_mayLead cX6_mayLead 3 (some .boolean)) ∈ wsL_law := wch15 _ (List.mem_of_getElem? (i := 20) rfl)
theorem q357 : (Cond.methodLink RX6 131 yX6_isBusy) ∈ wsL_law := wch15 _ (List.mem_of_getElem? (i := 21) rfl)
theorem q358 : (Cond.instanceMethod yX6_isBusy) ∈ wsL_law := wch15 _ (List.mem_of_getElem? (i := 22) rfl)
theorem q359 : (Cond.selects RX6 yX6_isBusy yX6_isBusy) ∈ wsL_law := wch15 _ (List.mem_of_getElem? (i := 23) rfl)
theorem q360 : (Cond.code yX6_isBusy cX6_isBusy 4 (some .boolean)) ∈ wsL_law := wch16 _ (List.mem_of_getElem? (i := 0) rfl)
theorem q361 : (Cond.methodLink RX6 128 yX6_leads) ∈ wsL_law := wch16 _ (List.mem_of_getElem? (i := 1) rfl)
theorem q362 : (Cond.instanceMethod yX6_leads) ∈ wsL_law := wch16 _ (List.mem_of_getElem? (i := 2) rfl)
theorem q363 : (Cond.selects RX6 yX6_leads yX6_leads) ∈ wsL_law := wch16 _ (List.mem_of_getElem? (i := 3) rfl)
theorem q364 : (Cond.code yX6_leads cX6_leads 4 (some .boolean)) ∈ wsL_law := wch16 _ (List.mem_of_getElem? (i := 4) rfl)
theorem q365 : (Cond.methodLink RX6 87 yX6_guideOn) ∈ wsL_law := wch16 _ (List.mem_of_getElem? (i := 5) rfl)
theorem q366 : (Cond.instanceMethod yX6_guideOn) ∈ wsL_law := wch16 _ (List.mem_of_getElem? (i := 6) rfl)
theorem q367 : (Cond.selects RX6 yX6_guideOn yX6_guideOn) ∈ wsL_law := wch16 _ (List.mem_of_getElem? (i := 7) rfl)
theorem q368 : (Cond.code yX6_guideOn cX6_guideOn 3 (some .int)) ∈ wsL_law := wch16 _ (List.mem_of_getElem? (i := 8) rfl)
theorem q369 : (Cond.methodLink RX6 90 yX6_ratio) ∈ wsL_law := wch16 _ (List.mem_of_getElem? (i := 9) rfl)
theorem q370 : (Cond.instanceMethod yX6_ratio) ∈ wsL_law := wch16 _ (List.mem_of_getElem? (i := 10) rfl)
theorem q371 : (Cond.selects RX6 yX6_ratio yX6_ratio) ∈ wsL_law := wch16 _ (List.mem_of_getElem? (i := 11) rfl)
theorem q372 : (Cond.code yX6_ratio cX6_ratio 4 (some .int)) ∈ wsL_law := wch16 _ (List.mem_of_getElem? (i := 12) rfl)
theorem q373 : (Cond.methodLink RX6 83 yX6_baseOf) ∈ wsL_law := wch16 _ (List.mem_of_getElem? (i := 13) rfl)
theorem q374 : (Cond.instanceMethod yX6_baseOf) ∈ wsL_law := wch16 _ (List.mem_of_getElem? (i := 14) rfl)
theorem q375 : (Cond.selects RX6 yX6_baseOf yX6_baseOf) ∈ wsL_law := wch16 _ (List.mem_of_getElem? (i := 15) rfl)
theorem q376 : (Cond.code yX6_baseOf cX6_baseOf 4 (some .int)) ∈ wsL_law := wch16 _ (List.mem_of_getElem? (i := 16) rfl)
theorem q377 : (Cond.constantDouble RX6 79 (4624633867356078080)) ∈ wsL_law := wch16 _ (List.mem_of_getElem? (i := 17) rfl)
theorem q378 : (Cond.constantDouble RX6 81 (4631530004285489152)) ∈ wsL_law := wch16 _ (List.mem_of_getElem? (i := 18) rfl)
theorem q379 : (Cond.methodLink RL 51 yX5_release) ∈ wsL_law := wch16 _ (List.mem_of_getElem? (i := 19) rfl)
theorem q380 : (Cond.instanceMethod yX5_release) ∈ wsL_law := wch16 _ (List.mem_of_getElem? (i := 20) rfl)
theorem q381 : (Cond.selects RX5 yX5_release yX5_release) ∈ wsL_law := wch16 _ (List.mem_of_getElem? (i := 21) rfl)
theorem q382 : (Cond.code yX5_release cX5_release 4 (some .int)) ∈ wsL_law := wch16 _ (List.mem_of_getElem? (i := 22) rfl)
theorem q383 : (Cond.methodLink RX5 161 yX4_hasInRow) ∈ wsL_law := wch16 _ (List.mem_of_getElem? (i := 23) rfl)
theorem q384 : (Cond.methodLink RX5 164 yX4_takeFromRow) ∈ wsL_law := wch17 _ (List.mem_of_getElem? (i := 0) rfl)
theorem q385 : (Cond.instanceMethod yX4_takeFromRow) ∈ wsL_law := wch17 _ (List.mem_of_getElem? (i := 1) rfl)
theorem q386 : (Cond.selects RX4 yX4_takeFromRow yX4_takeFromRow) ∈ wsL_law := wch17 _ (List.mem_of_getElem? (i := 2) rfl)
theorem q387 : (Cond.code yX4_takeFromRow cX4_takeFromRow 4 none) ∈ wsL_law := wch17 _ (List.mem_of_getElem? (i := 3) rfl)
theorem q388 : (Cond.methodLink RX5 167 yX2_leftAfter) ∈ wsL_law := wch17 _ (List.mem_of_getElem? (i := 4) rfl)
theorem q389 : (Cond.instanceMethod yX2_leftAfter) ∈ wsL_law := wch17 _ (List.mem_of_getElem? (i := 5) rfl)
theorem q390 : (Cond.selects RX2 yX2_leftAfter yX2_leftAfter) ∈ wsL_law := wch17 _ (List.mem_of_getElem? (i := 6) rfl)
theorem q391 : (Cond.code yX2_leftAfter cX2_leftAfter 5 (some .int)) ∈ wsL_law := wch17 _ (List.mem_of_getElem? (i := 7) rfl)
theorem q392 : (Cond.fieldLink RX2 87 "GlacierGuides$Tour" "guests" "I") ∈ wsL_law := wch17 _ (List.mem_of_getElem? (i := 8) rfl)
theorem q393 : (Cond.fieldLink RX2 90 "GlacierGuides$Tour" "row" "[I") ∈ wsL_law := wch17 _ (List.mem_of_getElem? (i := 9) rfl)
theorem q394 : (Cond.methodLink RX2 94 yX2_ratioOf) ∈ wsL_law := wch17 _ (List.mem_of_getElem? (i := 10) rfl)
theorem q395 : (Cond.methodLink RL 54 yX6_release) ∈ wsL_law := wch17 _ (List.mem_of_getElem? (i := 11) rfl)
theorem q396 : (Cond.instanceMethod yX6_release) ∈ wsL_law := wch17 _ (List.mem_of_getElem? (i := 12) rfl)
theorem q397 : (Cond.selects RX6 yX6_release yX6_release) ∈ wsL_law := wch17 _ (List.mem_of_getElem? (i := 13) rfl)
theorem q398 : (Cond.code yX6_release cX6_release 5 (some .int)) ∈ wsL_law := wch17 _ (List.mem_of_getElem? (i := 14) rfl)
theorem q399 : (Cond.methodLink RX6 105 yX6_leftOver) ∈ wsL_law := wch17 _ (List.mem_of_getElem? (i := 15) rfl)
theorem q400 : (Cond.instanceMethod yX6_leftOver) ∈ wsL_law := wch17 _ (List.mem_of_getElem? (i := 16) rfl)
theorem q401 : (Cond.selects RX6 yX6_leftOver yX6_leftOver) ∈ wsL_law := wch17 _ (List.mem_of_getElem? (i := 17) rfl)
theorem q402 : (Cond.code yX6_leftOver cX6_leftOver 2 (some .int)) ∈ wsL_law := wch17 _ (List.mem_of_getElem? (i := 18) rfl)
theorem q403 : (Cond.methodLink RX6 93 yX6_onRope) ∈ wsL_law := wch17 _ (List.mem_of_getElem? (i := 19) rfl)
theorem q404 : (Cond.instanceMethod yX6_onRope) ∈ wsL_law := wch17 _ (List.mem_of_getElem? (i := 20) rfl)
theorem q405 : (Cond.selects RX6 yX6_onRope yX6_onRope) ∈ wsL_law := wch17 _ (List.mem_of_getElem? (i := 21) rfl)
theorem q406 : (Cond.code yX6_onRope cX6_onRope 6 (some .int)) ∈ wsL_law := wch17 _ (List.mem_of_getElem? (i := 22) rfl)
theorem q407 : (Cond.methodLink RL 55 yX5_merge) ∈ wsL_law := wch17 _ (List.mem_of_getElem? (i := 23) rfl)
theorem q408 : (Cond.instanceMethod yX5_merge) ∈ wsL_law := wch18 _ (List.mem_of_getElem? (i := 0) rfl)
theorem q409 : (Cond.selects RX5 yX5_merge yX5_merge) ∈ wsL_law := wch18 _ (List.mem_of_getElem? (i := 1) rfl)
theorem q410 : (Cond.code yX5_merge cX5_merge 7 (some .int)) ∈ wsL_law := wch18 _ (List.mem_of_getElem? (i := 2) rfl)
theorem q411 : (Cond.methodLink RX5 171 yX4_fitsInto) ∈ wsL_law := wch18 _ (List.mem_of_getElem? (i := 3) rfl)
theorem q412 : (Cond.instanceMethod yX4_fitsInto) ∈ wsL_law := wch18 _ (List.mem_of_getElem? (i := 4) rfl)
theorem q413 : (Cond.selects RX4 yX4_fitsInto yX4_fitsInto) ∈ wsL_law := wch18 _ (List.mem_of_getElem? (i := 5) rfl)
theorem q414 : (Cond.code yX4_fitsInto cX4_fitsInto 2 (some .boolean)) ∈ wsL_law := wch18 _ (List.mem_of_getElem? (i := 6) rfl)
theorem q415 : (Cond.methodLink RX5 175 yX4_moveInto) ∈ wsL_law := wch18 _ (List.mem_of_getElem? (i := 7) rfl)
theorem q416 : (Cond.instanceMethod yX4_moveInto) ∈ wsL_law := wch18 _ (List.mem_of_getElem? (i := 8) rfl)
theorem q417 : (Cond.selects RX4 yX4_moveInto yX4_moveInto) ∈ wsL_law := wch18 _ (List.mem_of_getElem? (i := 9) rfl)
theorem q418 : (Cond.code yX4_moveInto cX4_moveInto 3 none) ∈ wsL_law := wch18 _ (List.mem_of_getElem? (i := 10) rfl)
theorem q419 : (Cond.methodLink RX4 71 yX4_addToRow) ∈ wsL_law := wch18 _ (List.mem_of_getElem? (i := 11) rfl)
theorem q420 : (Cond.methodLink RL 58 yX6_merge) ∈ wsL_law := wch18 _ (List.mem_of_getElem? (i := 12) rfl)
theorem q421 : (Cond.instanceMethod yX6_merge) ∈ wsL_law := wch18 _ (List.mem_of_getElem? (i := 13) rfl)
theorem q422 : (Cond.selects RX6 yX6_merge yX6_merge) ∈ wsL_law := wch18 _ (List.mem_of_getElem? (i := 14) rfl)
theorem q423 : (Cond.code yX6_merge cX6_merge 6 (some .int)) ∈ wsL_law := wch18 _ (List.mem_of_getElem? (i := 15) rfl)
theorem q424 : (Cond.methodLink RX6 137 yX6_mayMerge) ∈ wsL_law := wch18 _ (List.mem_of_getElem? (i := 16) rfl)
theorem q425 : (Cond.instanceMethod yX6_mayMerge) ∈ wsL_law := wch18 _ (List.mem_of_getElem? (i := 17) rfl)
theorem q426 : (Cond.selects RX6 yX6_mayMerge yX6_mayMerge) ∈ wsL_law := wch18 _ (List.mem_of_getElem? (i := 18) rfl)
theorem q427 : (Cond.code yX6_mayMerge cX6_mayMerge 5 (some .boolean)) ∈ wsL_law := wch18 _ (List.mem_of_getElem? (i := 19) rfl)
theorem q428 : (Cond.methodLink RL 59 yX5_cancel) ∈ wsL_law := wch18 _ (List.mem_of_getElem? (i := 20) rfl)
theorem q429 : (Cond.instanceMethod yX5_cancel) ∈ wsL_law := wch18 _ (List.mem_of_getElem? (i := 21) rfl)
theorem q430 : (Cond.selects RX5 yX5_cancel yX5_cancel) ∈ wsL_law := wch18 _ (List.mem_of_getElem? (i := 22) rfl)
theorem q431 : (Cond.code yX5_cancel cX5_cancel 3 (some .int)) ∈ wsL_law := wch18 _ (List.mem_of_getElem? (i := 23) rfl)
theorem q432 : (Cond.methodLink RX5 179 yX2_callOff) ∈ wsL_law := wch19 _ (List.mem_of_getElem? (i := 0) rfl)
theorem q433 : (Cond.instanceMethod yX2_callOff) ∈ wsL_law := wch19 _ (List.mem_of_getElem? (i := 1) rfl)
theorem q434 : (Cond.selects RX2 yX2_callOff yX2_callOff) ∈ wsL_law := wch19 _ (List.mem_of_getElem? (i := 2) rfl)
theorem q435 : (Cond.code yX2_callOff cX2_callOff 4 (some .int)) ∈ wsL_law := wch19 _ (List.mem_of_getElem? (i := 3) rfl)
theorem q436 : (Cond.fieldLink RX2 152 "GlacierGuides$Tour" "cause" "I") ∈ wsL_law := wch19 _ (List.mem_of_getElem? (i := 4) rfl)
theorem q437 : (Cond.methodLink RX2 155 yX2_payBack) ∈ wsL_law := wch19 _ (List.mem_of_getElem? (i := 5) rfl)
theorem q438 : (Cond.methodLink RL 63 yX6_cancel) ∈ wsL_law := wch19 _ (List.mem_of_getElem? (i := 6) rfl)
theorem q439 : (Cond.instanceMethod yX6_cancel) ∈ wsL_law := wch19 _ (List.mem_of_getElem? (i := 7) rfl)
theorem q440 : (Cond.selects RX6 yX6_cancel yX6_cancel) ∈ wsL_law := wch19 _ (List.mem_of_getElem? (i := 8) rfl)
theorem q441 : (Cond.code yX6_cancel cX6_cancel 2 (some .int)) ∈ wsL_law := wch19 _ (List.mem_of_getElem? (i := 9) rfl)
theorem q442 : (Cond.methodLink RX6 140 yX6_cancels) ∈ wsL_law := wch19 _ (List.mem_of_getElem? (i := 10) rfl)
theorem q443 : (Cond.instanceMethod yX6_cancels) ∈ wsL_law := wch19 _ (List.mem_of_getElem? (i := 11) rfl)
theorem q444 : (Cond.selects RX6 yX6_cancels yX6_cancels) ∈ wsL_law := wch19 _ (List.mem_of_getElem? (i := 12) rfl)
theorem q445 : (Cond.code yX6_cancels cX6_cancels 4 (some .int)) ∈ wsL_law := wch19 _ (List.mem_of_getElem? (i := 13) rfl)
theorem q446 : (Cond.methodLink RL 64 yX5_pass) ∈ wsL_law := wch19 _ (List.mem_of_getElem? (i := 14) rfl)
theorem q447 : (Cond.instanceMethod yX5_pass) ∈ wsL_law := wch19 _ (List.mem_of_getElem? (i := 15) rfl)
theorem q448 : (Cond.selects RX5 yX5_pass yX5_pass) ∈ wsL_law := wch19 _ (List.mem_of_getElem? (i := 16) rfl)
theorem q449 : (Cond.code yX5_pass cX5_pass 4 (some .int)) ∈ wsL_law := wch19 _ (List.mem_of_getElem? (i := 17) rfl)
theorem q450 : (Cond.methodLink RX5 182 yX2_passDay) ∈ wsL_law := wch19 _ (List.mem_of_getElem? (i := 18) rfl)
theorem q451 : (Cond.instanceMethod yX2_passDay) ∈ wsL_law := wch19 _ (List.mem_of_getElem? (i := 19) rfl)
theorem q452 : (Cond.selects RX2 yX2_passDay yX2_passDay) ∈ wsL_law := wch19 _ (List.mem_of_getElem? (i := 20) rfl)
theorem q453 : (Cond.code yX2_passDay cX2_passDay 5 (some .int)) ∈ wsL_law := wch19 _ (List.mem_of_getElem? (i := 21) rfl)
theorem q454 : (Cond.methodLink RX2 128 yX2_causeAgainst) ∈ wsL_law := wch19 _ (List.mem_of_getElem? (i := 22) rfl)
theorem q455 : (Cond.instanceMethod yX2_causeAgainst) ∈ wsL_law := wch19 _ (List.mem_of_getElem? (i := 23) rfl)
theorem q456 : (Cond.selects RX2 yX2_causeAgainst yX2_causeAgainst) ∈ wsL_law := wch20 _ (List.mem_of_getElem? (i := 0) rfl)
theorem q457 : (Cond.code yX2_causeAgainst cX2_causeAgainst 2 (some .int)) ∈ wsL_law := wch20 _ (List.mem_of_getElem? (i := 1) rfl)
theorem q458 : (Cond.fieldLink RX2 102 "GlacierGuides$Tour" "guides" "I") ∈ wsL_law := wch20 _ (List.mem_of_getElem? (i := 2) rfl)
theorem q459 : (Cond.methodLink RX2 121 yX2_allBridgesHold) ∈ wsL_law := wch20 _ (List.mem_of_getElem? (i := 3) rfl)
theorem q460 : (Cond.instanceMethod yX2_allBridgesHold) ∈ wsL_law := wch20 _ (List.mem_of_getElem? (i := 4) rfl)
theorem q461 : (Cond.selects RX2 yX2_allBridgesHold yX2_allBridgesHold) ∈ wsL_law := wch20 _ (List.mem_of_getElem? (i := 5) rfl)
theorem q462 : (Cond.code yX2_allBridgesHold cX2_allBridgesHold 5 (some .boolean)) ∈ wsL_law := wch20 _ (List.mem_of_getElem? (i := 6) rfl)
theorem q463 : (Cond.fieldLink RX2 112 "GlacierGuides$Tour" "bridges" "I") ∈ wsL_law := wch20 _ (List.mem_of_getElem? (i := 7) rfl)
theorem q464 : (Cond.methodLink RX2 108 yX2_neededBy) ∈ wsL_law := wch20 _ (List.mem_of_getElem? (i := 8) rfl)
theorem q465 : (Cond.instanceMethod yX2_neededBy) ∈ wsL_law := wch20 _ (List.mem_of_getElem? (i := 9) rfl)
theorem q466 : (Cond.selects RX2 yX2_neededBy yX2_neededBy) ∈ wsL_law := wch20 _ (List.mem_of_getElem? (i := 10) rfl)
theorem q467 : (Cond.code yX2_neededBy cX2_neededBy 6 (some .double)) ∈ wsL_law := wch20 _ (List.mem_of_getElem? (i := 11) rfl)
theorem q468 : (Cond.constantDouble RX2 104 (4624633867356078080)) ∈ wsL_law := wch20 _ (List.mem_of_getElem? (i := 12) rfl)
theorem q469 : (Cond.constantDouble RX2 106 (4612811918334230528)) ∈ wsL_law := wch20 _ (List.mem_of_getElem? (i := 13) rfl)
theorem q470 : (Cond.methodLink RX2 98 yX2_leftAfter) ∈ wsL_law := wch20 _ (List.mem_of_getElem? (i := 14) rfl)
theorem q471 : (Cond.methodLink RX2 125 yX2_allGuidesAreValid) ∈ wsL_law := wch20 _ (List.mem_of_getElem? (i := 15) rfl)
theorem q472 : (Cond.instanceMethod yX2_allGuidesAreValid) ∈ wsL_law := wch20 _ (List.mem_of_getElem? (i := 16) rfl)
theorem q473 : (Cond.selects RX2 yX2_allGuidesAreValid yX2_allGuidesAreValid) ∈ wsL_law := wch20 _ (List.mem_of_getElem? (i := 17) rfl)
theorem q474 : (Cond.code yX2_allGuidesAreValid cX2_allGuidesAreValid 3 (some .boolean)) ∈ wsL_law := wch20 _ (List.mem_of_getElem? (i := 18) rfl)
theorem q475 : (Cond.methodLink RX2 132 yX2_letGo) ∈ wsL_law := wch20 _ (List.mem_of_getElem? (i := 19) rfl)
theorem q476 : (Cond.instanceMethod yX2_letGo) ∈ wsL_law := wch20 _ (List.mem_of_getElem? (i := 20) rfl)
theorem q477 : (Cond.selects RX2 yX2_letGo yX2_letGo) ∈ wsL_law := wch20 _ (List.mem_of_getElem? (i := 21) rfl)
theorem q478 : (Cond.code yX2_letGo cX2_letGo 3 none) ∈ wsL_law := wch20 _ (List.mem_of_getElem? (i := 22) rfl)
theorem q479 : (Cond.methodLink RX2 142 yX2_guestsOnRope) ∈ wsL_law := wch20 _ (List.mem_of_getElem? (i := 23) rfl)
theorem q480 : (Cond.instanceMethod yX2_guestsOnRope) ∈ wsL_law := wch21 _ (List.mem_of_getElem? (i := 0) rfl)
theorem q481 : (Cond.selects RX2 yX2_guestsOnRope yX2_guestsOnRope) ∈ wsL_law := wch21 _ (List.mem_of_getElem? (i := 1) rfl)
theorem q482 : (Cond.code yX2_guestsOnRope cX2_guestsOnRope 3 (some .int)) ∈ wsL_law := wch21 _ (List.mem_of_getElem? (i := 2) rfl)
theorem q483 : (Cond.methodLink RX2 145 yX0_haveLed) ∈ wsL_law := wch21 _ (List.mem_of_getElem? (i := 3) rfl)
theorem q484 : (Cond.instanceMethod yX0_haveLed) ∈ wsL_law := wch21 _ (List.mem_of_getElem? (i := 4) rfl)
theorem q485 : (Cond.selects RX0 yX0_haveLed yX0_haveLed) ∈ wsL_law := wch21 _ (List.mem_of_getElem? (i := 5) rfl)
theorem q486 : (Cond.code yX0_haveLed cX0_haveLed 2 none) ∈ wsL_law := wch21 _ (List.mem_of_getElem? (i := 6) rfl)
theorem q487 : (Cond.methodLink RX2 135 yX2_callOff) ∈ wsL_law := wch21 _ (List.mem_of_getElem? (i := 7) rfl)
theorem q488 : (Cond.methodLink RX2 138 yX2_dayLater) ∈ wsL_law := wch21 _ (List.mem_of_getElem? (i := 8) rfl)
theorem q489 : (Cond.instanceMethod yX2_dayLater) ∈ wsL_law := wch21 _ (List.mem_of_getElem? (i := 9) rfl)
theorem q490 : (Cond.selects RX2 yX2_dayLater yX2_dayLater) ∈ wsL_law := wch21 _ (List.mem_of_getElem? (i := 10) rfl)
theorem q491 : (Cond.code yX2_dayLater cX2_dayLater 5 (some .double)) ∈ wsL_law := wch21 _ (List.mem_of_getElem? (i := 11) rfl)
theorem q492 : (Cond.constantDouble RX2 115 (4609434218613702656)) ∈ wsL_law := wch21 _ (List.mem_of_getElem? (i := 12) rfl)
theorem q493 : (Cond.constantDouble RX2 117 (4598175219545276416)) ∈ wsL_law := wch21 _ (List.mem_of_getElem? (i := 13) rfl)
theorem q494 : (Cond.constantDouble RX2 119 (4647503709213818880)) ∈ wsL_law := wch21 _ (List.mem_of_getElem? (i := 14) rfl)
theorem q495 : (Cond.methodLink RL 67 yX6_pass) ∈ wsL_law := wch21 _ (List.mem_of_getElem? (i := 15) rfl)
theorem q496 : (Cond.instanceMethod yX6_pass) ∈ wsL_law := wch21 _ (List.mem_of_getElem? (i := 16) rfl)
theorem q497 : (Cond.selects RX6 yX6_pass yX6_pass) ∈ wsL_law := wch21 _ (List.mem_of_getElem? (i := 17) rfl)
theorem q498 : (Cond.code yX6_pass cX6_pass 4 (some .int)) ∈ wsL_law := wch21 _ (List.mem_of_getElem? (i := 18) rfl)
theorem q499 : (Cond.methodLink RX6 158 yX6_passes) ∈ wsL_law := wch21 _ (List.mem_of_getElem? (i := 19) rfl)
theorem q500 : (Cond.instanceMethod yX6_passes) ∈ wsL_law := wch21 _ (List.mem_of_getElem? (i := 20) rfl)
theorem q501 : (Cond.selects RX6 yX6_passes yX6_passes) ∈ wsL_law := wch21 _ (List.mem_of_getElem? (i := 21) rfl)
theorem q502 : (Cond.code yX6_passes cX6_passes 5 (some .int)) ∈ wsL_law := wch21 _ (List.mem_of_getElem? (i := 22) rfl)
theorem q503 : (Cond.methodLink RX6 147 yX6_causeOf) ∈ wsL_law := wch21 _ (List.mem_of_getElem? (i := 23) rfl)
theorem q504 : (Cond.instanceMethod yX6_causeOf) ∈ wsL_law := wch22 _ (List.mem_of_getElem? (i := 0) rfl)
theorem q505 : (Cond.selects RX6 yX6_causeOf yX6_causeOf) ∈ wsL_law := wch22 _ (List.mem_of_getElem? (i := 1) rfl)
theorem q506 : (Cond.code yX6_causeOf cX6_causeOf 4 (some .int)) ∈ wsL_law := wch22 _ (List.mem_of_getElem? (i := 2) rfl)
theorem q507 : (Cond.methodLink RX6 102 yX6_isHeld) ∈ wsL_law := wch22 _ (List.mem_of_getElem? (i := 3) rfl)
theorem q508 : (Cond.instanceMethod yX6_isHeld) ∈ wsL_law := wch22 _ (List.mem_of_getElem? (i := 4) rfl)
theorem q509 : (Cond.selects RX6 yX6_isHeld yX6_isHeld) ∈ wsL_law := wch22 _ (List.mem_of_getElem? (i := 5) rfl)
theorem q510 : (Cond.code yX6_isHeld cX6_isHeld 3 (some .boolean)) ∈ wsL_law := wch22 _ (List.mem_of_getElem? (i := 6) rfl)
theorem q511 : (Cond.methodLink RX6 98 yX6_neededBy) ∈ wsL_law := wch22 _ (List.mem_of_getElem? (i := 7) rfl)
theorem q512 : (Cond.instanceMethod yX6_neededBy) ∈ wsL_law := wch22 _ (List.mem_of_getElem? (i := 8) rfl)
theorem q513 : (Cond.selects RX6 yX6_neededBy yX6_neededBy) ∈ wsL_law := wch22 _ (List.mem_of_getElem? (i := 9) rfl)
theorem q514 : (Cond.code yX6_neededBy cX6_neededBy 4 (some .double)) ∈ wsL_law := wch22 _ (List.mem_of_getElem? (i := 10) rfl)
theorem q515 : (Cond.constantDouble RX6 96 (4612811918334230528)) ∈ wsL_law := wch22 _ (List.mem_of_getElem? (i := 11) rfl)
theorem q516 : (Cond.methodLink RX6 150 yX6_goes) ∈ wsL_law := wch22 _ (List.mem_of_getElem? (i := 12) rfl)
theorem q517 : (Cond.instanceMethod yX6_goes) ∈ wsL_law := wch22 _ (List.mem_of_getElem? (i := 13) rfl)
theorem q518 : (Cond.selects RX6 yX6_goes yX6_goes) ∈ wsL_law := wch22 _ (List.mem_of_getElem? (i := 14) rfl)
theorem q519 : (Cond.code yX6_goes cX6_goes 4 none) ∈ wsL_law := wch22 _ (List.mem_of_getElem? (i := 15) rfl)
theorem q520 : (Cond.methodLink RX6 154 yX6_changed) ∈ wsL_law := wch22 _ (List.mem_of_getElem? (i := 16) rfl)
theorem q521 : (Cond.instanceMethod yX6_changed) ∈ wsL_law := wch22 _ (List.mem_of_getElem? (i := 17) rfl)
theorem q522 : (Cond.selects RX6 yX6_changed yX6_changed) ∈ wsL_law := wch22 _ (List.mem_of_getElem? (i := 18) rfl)
theorem q523 : (Cond.code yX6_changed cX6_changed 7 (some .double)) ∈ wsL_law := wch22 _ (List.mem_of_getElem? (i := 19) rfl)
theorem q524 : (Cond.constantDouble RX6 143 (4609434218613702656)) ∈ wsL_law := wch22 _ (List.mem_of_getElem? (i := 20) rfl)
theorem q525 : (Cond.constantDouble RX6 145 (4598175219545276416)) ∈ wsL_law := wch22 _ (List.mem_of_getElem? (i := 21) rfl)
theorem q526 : (Cond.methodLink RL 68 yX5_type) ∈ wsL_law := wch22 _ (List.mem_of_getElem? (i := 22) rfl)
theorem q527 : (Cond.instanceMethod yX5_type) ∈ wsL_law := wch22 _ (List.mem_of_getElem? (i := 23) rfl)
theorem q528 : (Cond.selects RX5 yX5_type yX5_type) ∈ wsL_law := wch23 _ (List.mem_of_getElem? (i := 0) rfl)
theorem q529 : (Cond.code yX5_type cX5_type 2 (some .int)) ∈ wsL_law := wch23 _ (List.mem_of_getElem? (i := 1) rfl)
theorem q530 : (Cond.fieldLink RX5 186 "GlacierGuides$Text" "length" "I") ∈ wsL_law := wch23 _ (List.mem_of_getElem? (i := 2) rfl)
theorem q531 : (Cond.methodLink RX5 189 yX3_append) ∈ wsL_law := wch23 _ (List.mem_of_getElem? (i := 3) rfl)
theorem q532 : (Cond.instanceMethod yX3_append) ∈ wsL_law := wch23 _ (List.mem_of_getElem? (i := 4) rfl)
theorem q533 : (Cond.selects RX3 yX3_append yX3_append) ∈ wsL_law := wch23 _ (List.mem_of_getElem? (i := 5) rfl)
theorem q534 : (Cond.code yX3_append cX3_append 2 none) ∈ wsL_law := wch23 _ (List.mem_of_getElem? (i := 6) rfl)
theorem q535 : (Cond.fieldLink RX3 15 "GlacierGuides$Text" "length" "I") ∈ wsL_law := wch23 _ (List.mem_of_getElem? (i := 7) rfl)
theorem q536 : (Cond.methodLink RL 72 yX6_type) ∈ wsL_law := wch23 _ (List.mem_of_getElem? (i := 8) rfl)
theorem q537 : (Cond.instanceMethod yX6_type) ∈ wsL_law := wch23 _ (List.mem_of_getElem? (i := 9) rfl)
theorem q538 : (Cond.selects RX6 yX6_type yX6_type) ∈ wsL_law := wch23 _ (List.mem_of_getElem? (i := 10) rfl)
theorem q539 : (Cond.code yX6_type cX6_type 2 (some .int)) ∈ wsL_law := wch23 _ (List.mem_of_getElem? (i := 11) rfl)
theorem q540 : (Cond.fieldLink RX6 162 "GlacierGuidesModel" "typed" "I") ∈ wsL_law := wch23 _ (List.mem_of_getElem? (i := 12) rfl)
theorem q541 : (Cond.methodLink RL 73 yX5_clearText) ∈ wsL_law := wch23 _ (List.mem_of_getElem? (i := 13) rfl)
theorem q542 : (Cond.instanceMethod yX5_clearText) ∈ wsL_law := wch23 _ (List.mem_of_getElem? (i := 14) rfl)
theorem q543 : (Cond.selects RX5 yX5_clearText yX5_clearText) ∈ wsL_law := wch23 _ (List.mem_of_getElem? (i := 15) rfl)
theorem q544 : (Cond.code yX5_clearText cX5_clearText 2 (some .int)) ∈ wsL_law := wch23 _ (List.mem_of_getElem? (i := 16) rfl)
theorem q545 : (Cond.methodLink RL 77 yX6_clearText) ∈ wsL_law := wch23 _ (List.mem_of_getElem? (i := 17) rfl)
theorem q546 : (Cond.instanceMethod yX6_clearText) ∈ wsL_law := wch23 _ (List.mem_of_getElem? (i := 18) rfl)
theorem q547 : (Cond.selects RX6 yX6_clearText yX6_clearText) ∈ wsL_law := wch23 _ (List.mem_of_getElem? (i := 19) rfl)
theorem q548 : (Cond.code yX6_clearText cX6_clearText 2 (some .int)) ∈ wsL_law := wch23 _ (List.mem_of_getElem? (i := 20) rfl)
theorem q549 : (Cond.methodLink RL 78 yX5_perform) ∈ wsL_law := wch23 _ (List.mem_of_getElem? (i := 21) rfl)
theorem q550 : (Cond.instanceMethod yX5_perform) ∈ wsL_law := wch23 _ (List.mem_of_getElem? (i := 22) rfl)
theorem q551 : (Cond.selects RX5 yX5_perform yX5_perform) ∈ wsL_law := wch23 _ (List.mem_of_getElem? (i := 23) rfl)
theorem q552 : (Cond.code yX5_perform cX5_perform 2 (some .int)) ∈ wsL_law := wch24 _ (List.mem_of_getElem? (i := 0) rfl)
theorem q553 : (Cond.fieldLink RX5 196 "GlacierGuides$Text" "command" "I") ∈ wsL_law := wch24 _ (List.mem_of_getElem? (i := 1) rfl)
theorem q554 : (Cond.fieldLink RX5 199 "GlacierGuides$Text" "first" "I") ∈ wsL_law := wch24 _ (List.mem_of_getElem? (i := 2) rfl)
theorem q555 : (Cond.fieldLink RX5 202 "GlacierGuides$Text" "second" "I") ∈ wsL_law := wch24 _ (List.mem_of_getElem? (i := 3) rfl)
theorem q556 : (Cond.methodLink RX5 193 yX3_read) ∈ wsL_law := wch24 _ (List.mem_of_getElem? (i := 4) rfl)
theorem q557 : (Cond.instanceMethod yX3_read) ∈ wsL_law := wch24 _ (List.mem_of_getElem? (i := 5) rfl)
theorem q558 : (Cond.selects RX3 yX3_read yX3_read) ∈ wsL_law := wch24 _ (List.mem_of_getElem? (i := 6) rfl)
theorem q559 : (Cond.code yX3_read cX3_read 5 (some .int)) ∈ wsL_law := wch24 _ (List.mem_of_getElem? (i := 7) rfl)
theorem q560 : (Cond.fieldLink RX3 27 "GlacierGuides$Text" "command" "I") ∈ wsL_law := wch24 _ (List.mem_of_getElem? (i := 8) rfl)
theorem q561 : (Cond.methodLink RX3 19 yX3_wordLength) ∈ wsL_law := wch24 _ (List.mem_of_getElem? (i := 9) rfl)
theorem q562 : (Cond.instanceMethod yX3_wordLength) ∈ wsL_law := wch24 _ (List.mem_of_getElem? (i := 10) rfl)
theorem q563 : (Cond.selects RX3 yX3_wordLength yX3_wordLength) ∈ wsL_law := wch24 _ (List.mem_of_getElem? (i := 11) rfl)
theorem q564 : (Cond.code yX3_wordLength cX3_wordLength 2 (some .int)) ∈ wsL_law := wch24 _ (List.mem_of_getElem? (i := 12) rfl)
theorem q565 : (Cond.methodLink RX3 23 yX3_commandOf) ∈ wsL_law := wch24 _ (List.mem_of_getElem? (i := 13) rfl)
theorem q566 : (Cond.instanceMethod yX3_commandOf) ∈ wsL_law := wch24 _ (List.mem_of_getElem? (i := 14) rfl)
theorem q567 : (Cond.selects RX3 yX3_commandOf yX3_commandOf) ∈ wsL_law := wch24 _ (List.mem_of_getElem? (i := 15) rfl)
theorem q568 : (Cond.code yX3_commandOf cX3_commandOf 2 (some .int)) ∈ wsL_law := wch24 _ (List.mem_of_getElem? (i := 16) rfl)
theorem q569 : (Cond.methodLink RX3 46 yX3_isWord) ∈ wsL_law := wch24 _ (List.mem_of_getElem? (i := 17) rfl)
theorem q570 : (Cond.instanceMethod yX3_isWord) ∈ wsL_law := wch24 _ (List.mem_of_getElem? (i := 18) rfl)
theorem q571 : (Cond.selects RX3 yX3_isWord yX3_isWord) ∈ wsL_law := wch24 _ (List.mem_of_getElem? (i := 19) rfl)
theorem q572 : (Cond.code yX3_isWord cX3_isWord 4 (some .boolean)) ∈ wsL_law := wch24 _ (List.mem_of_getElem? (i := 20) rfl)
theorem q573 : (Cond.methodLink RX3 58 yJ0_length_8abf5) ∈ wsL_law := wch24 _ (List.mem_of_getElem? (i := 21) rfl)
theorem q574 : (Cond.instanceMethod yJ0_length_8abf5) ∈ wsL_law := wch24 _ (List.mem_of_getElem? (i := 22) rfl)
theorem q575 : (Cond.selects RJ0 yJ0_length_8abf5 yJ0_length_8abf5) ∈ wsL_law := wch24 _ (List.mem_of_getElem? (i := 23) rfl)
theorem q576 : (Cond.initialized RJ0) ∈ wsL_law := wch25 _ (List.mem_of_getElem? (i := 0) rfl)
theorem q577 : (Cond.code yJ0_length_8abf5 cJ0_length_8abf5 1 (some .int)) ∈ wsL_law := wch25 _ (List.mem_of_getElem? (i := 1) rfl)
theorem q578 : (Cond.fieldLink RJ0 9 "java/lang/String" "value" "[B") ∈ wsL_law := wch25 _ (List.mem_of_getElem? (i := 2) rfl)
theorem q579 : (Cond.methodLink RJ0 335 yJ0_coder_7d493) ∈ wsL_law := wch25 _ (List.mem_of_getElem? (i := 3) rfl)
theorem q580 : (Cond.instanceMethod yJ0_coder_7d493) ∈ wsL_law := wch25 _ (List.mem_of_getElem? (i := 4) rfl)
theorem q581 : (Cond.selects RJ0 yJ0_coder_7d493 yJ0_coder_7d493) ∈ wsL_law := wch25 _ (List.mem_of_getElem? (i := 5) rfl)
theorem q582 : (Cond.code yJ0_coder_7d493 cJ0_coder_7d493 1 (some .byte)) ∈ wsL_law := wch25 _ (List.mem_of_getElem? (i := 6) rfl)
theorem q583 : (Cond.fieldLink RJ0 38 "java/lang/String" "COMPACT_STRINGS" "Z") ∈ wsL_law := wch25 _ (List.mem_of_getElem? (i := 7) rfl)
theorem q584 : (Cond.fieldLink RJ0 15 "java/lang/String" "coder" "B") ∈ wsL_law := wch25 _ (List.mem_of_getElem? (i := 8) rfl)
theorem q585 : (Cond.methodLink RX3 62 yJ0_charAt_5068e) ∈ wsL_law := wch25 _ (List.mem_of_getElem? (i := 9) rfl)
theorem q586 : (Cond.instanceMethod yJ0_charAt_5068e) ∈ wsL_law := wch25 _ (List.mem_of_getElem? (i := 10) rfl)
theorem q587 : (Cond.selects RJ0 yJ0_charAt_5068e yJ0_charAt_5068e) ∈ wsL_law := wch25 _ (List.mem_of_getElem? (i := 11) rfl)
theorem q588 : (Cond.code yJ0_charAt_5068e cJ0_charAt_5068e 2 (some .char)) ∈ wsL_law := wch25 _ (List.mem_of_getElem? (i := 12) rfl)
theorem q589 : (Cond.methodLink RJ0 492 yJ0_isLatin1_aae02) ∈ wsL_law := wch25 _ (List.mem_of_getElem? (i := 13) rfl)
theorem q590 : (Cond.instanceMethod yJ0_isLatin1_aae02) ∈ wsL_law := wch25 _ (List.mem_of_getElem? (i := 14) rfl)
theorem q591 : (Cond.selects RJ0 yJ0_isLatin1_aae02 yJ0_isLatin1_aae02) ∈ wsL_law := wch25 _ (List.mem_of_getElem? (i := 15) rfl)
theorem q592 : (Cond.code yJ0_isLatin1_aae02 cJ0_isLatin1_aae02 1 (some .boolean)) ∈ wsL_law := wch25 _ (List.mem_of_getElem? (i := 16) rfl)
theorem q593 : (Cond.methodLink RJ0 495 yJ1_charAt_3b067) ∈ wsL_law := wch25 _ (List.mem_of_getElem? (i := 17) rfl)
theorem q594 : (Cond.static yJ1_charAt_3b067) ∈ wsL_law := wch25 _ (List.mem_of_getElem? (i := 18) rfl)
theorem q595 : (Cond.initialized RJ1) ∈ wsL_law := wch25 _ (List.mem_of_getElem? (i := 19) rfl)
theorem q596 : (Cond.code yJ1_charAt_3b067 cJ1_charAt_3b067 2 (some .char)) ∈ wsL_law := wch25 _ (List.mem_of_getElem? (i := 20) rfl)
theorem q597 : (Cond.methodLink RJ1 9 yJ0_checkIndex_df160) ∈ wsL_law := wch25 _ (List.mem_of_getElem? (i := 21) rfl)
theorem q598 : (Cond.static yJ0_checkIndex_df160) ∈ wsL_law := wch25 _ (List.mem_of_getElem? (i := 22) rfl)
theorem q599 : (Cond.code yJ0_checkIndex_df160 cJ0_checkIndex_df160 2 none) ∈ wsL_law := wch25 _ (List.mem_of_getElem? (i := 23) rfl)
theorem q600 : (Cond.fieldLink RJ0 1053 "jdk/internal/util/Preconditions" "SIOOBE_FORMATTER" "Ljava/util/function/BiFunction;") ∈ wsL_law := wch26 _ (List.mem_of_getElem? (i := 0) rfl)
theorem q601 : (Cond.methodLink RJ0 1059 yJ3_checkIndex_8e157) ∈ wsL_law := wch26 _ (List.mem_of_getElem? (i := 1) rfl)
theorem q602 : (Cond.static yJ3_checkIndex_8e157) ∈ wsL_law := wch26 _ (List.mem_of_getElem? (i := 2) rfl)
theorem q603 : (Cond.initialized RJ3) ∈ wsL_law := wch26 _ (List.mem_of_getElem? (i := 3) rfl)
theorem q604 : (Cond.code yJ3_checkIndex_8e157 cJ3_checkIndex_8e157 3 (some .int)) ∈ wsL_law := wch26 _ (List.mem_of_getElem? (i := 4) rfl)
theorem q605 : (Cond.methodLink RJ0 498 yJ2_charAt_3b067) ∈ wsL_law := wch26 _ (List.mem_of_getElem? (i := 5) rfl)
theorem q606 : (Cond.static yJ2_charAt_3b067) ∈ wsL_law := wch26 _ (List.mem_of_getElem? (i := 6) rfl)
theorem q607 : (Cond.initialized RJ2) ∈ wsL_law := wch26 _ (List.mem_of_getElem? (i := 7) rfl)
theorem q608 : (Cond.code yJ2_charAt_3b067 cJ2_charAt_3b067 2 (some .char)) ∈ wsL_law := wch26 _ (List.mem_of_getElem? (i := 8) rfl)
theorem q609 : (Cond.methodLink RJ2 67 yJ2_checkIndex_2214a) ∈ wsL_law := wch26 _ (List.mem_of_getElem? (i := 9) rfl)
theorem q610 : (Cond.static yJ2_checkIndex_2214a) ∈ wsL_law := wch26 _ (List.mem_of_getElem? (i := 10) rfl)
theorem q611 : (Cond.code yJ2_checkIndex_2214a cJ2_checkIndex_2214a 2 none) ∈ wsL_law := wch26 _ (List.mem_of_getElem? (i := 11) rfl)
theorem q612 : (Cond.methodLink RJ2 48 yJ2_length_9d52b) ∈ wsL_law := wch26 _ (List.mem_of_getElem? (i := 12) rfl)
theorem q613 : (Cond.static yJ2_length_9d52b) ∈ wsL_law := wch26 _ (List.mem_of_getElem? (i := 13) rfl)
theorem q614 : (Cond.code yJ2_length_9d52b cJ2_length_9d52b 1 (some .int)) ∈ wsL_law := wch26 _ (List.mem_of_getElem? (i := 14) rfl)
theorem q615 : (Cond.methodLink RJ2 414 yJ0_checkIndex_df160) ∈ wsL_law := wch26 _ (List.mem_of_getElem? (i := 15) rfl)
theorem q616 : (Cond.methodLink RJ2 71 yJ2_getChar_3b067) ∈ wsL_law := wch26 _ (List.mem_of_getElem? (i := 16) rfl)
theorem q617 : (Cond.static yJ2_getChar_3b067) ∈ wsL_law := wch26 _ (List.mem_of_getElem? (i := 17) rfl)
theorem q618 : (Cond.code yJ2_getChar_3b067 cJ2_getChar_3b067 2 (some .char)) ∈ wsL_law := wch26 _ (List.mem_of_getElem? (i := 18) rfl)
theorem q619 : (Cond.fieldLink RJ2 44 "java/lang/StringUTF16" "$assertionsDisabled" "Z") ∈ wsL_law := wch26 _ (List.mem_of_getElem? (i := 19) rfl)
theorem q620 : (Cond.fieldLink RJ2 59 "java/lang/StringUTF16" "HI_BYTE_SHIFT" "I") ∈ wsL_law := wch26 _ (List.mem_of_getElem? (i := 20) rfl)
theorem q621 : (Cond.fieldLink RJ2 63 "java/lang/StringUTF16" "LO_BYTE_SHIFT" "I") ∈ wsL_law := wch26 _ (List.mem_of_getElem? (i := 21) rfl)
theorem q622 : (Cond.methodLink RX3 30 yX3_isBlankAt) ∈ wsL_law := wch26 _ (List.mem_of_getElem? (i := 22) rfl)
theorem q623 : (Cond.instanceMethod yX3_isBlankAt) ∈ wsL_law := wch26 _ (List.mem_of_getElem? (i := 23) rfl)
theorem q624 : (Cond.selects RX3 yX3_isBlankAt yX3_isBlankAt) ∈ wsL_law := wch27 _ (List.mem_of_getElem? (i := 0) rfl)
theorem q625 : (Cond.code yX3_isBlankAt cX3_isBlankAt 2 (some .boolean)) ∈ wsL_law := wch27 _ (List.mem_of_getElem? (i := 1) rfl)
theorem q626 : (Cond.methodLink RX3 34 yX3_isDigitAt) ∈ wsL_law := wch27 _ (List.mem_of_getElem? (i := 2) rfl)
theorem q627 : (Cond.instanceMethod yX3_isDigitAt) ∈ wsL_law := wch27 _ (List.mem_of_getElem? (i := 3) rfl)
theorem q628 : (Cond.selects RX3 yX3_isDigitAt yX3_isDigitAt) ∈ wsL_law := wch27 _ (List.mem_of_getElem? (i := 4) rfl)
theorem q629 : (Cond.code yX3_isDigitAt cX3_isDigitAt 2 (some .boolean)) ∈ wsL_law := wch27 _ (List.mem_of_getElem? (i := 5) rfl)
theorem q630 : (Cond.methodLink RX3 37 yX3_digitsAt) ∈ wsL_law := wch27 _ (List.mem_of_getElem? (i := 6) rfl)
theorem q631 : (Cond.instanceMethod yX3_digitsAt) ∈ wsL_law := wch27 _ (List.mem_of_getElem? (i := 7) rfl)
theorem q632 : (Cond.selects RX3 yX3_digitsAt yX3_digitsAt) ∈ wsL_law := wch27 _ (List.mem_of_getElem? (i := 8) rfl)
theorem q633 : (Cond.code yX3_digitsAt cX3_digitsAt 2 (some .int)) ∈ wsL_law := wch27 _ (List.mem_of_getElem? (i := 9) rfl)
theorem q634 : (Cond.methodLink RX3 40 yX3_keepNumber) ∈ wsL_law := wch27 _ (List.mem_of_getElem? (i := 10) rfl)
theorem q635 : (Cond.instanceMethod yX3_keepNumber) ∈ wsL_law := wch27 _ (List.mem_of_getElem? (i := 11) rfl)
theorem q636 : (Cond.selects RX3 yX3_keepNumber yX3_keepNumber) ∈ wsL_law := wch27 _ (List.mem_of_getElem? (i := 12) rfl)
theorem q637 : (Cond.code yX3_keepNumber cX3_keepNumber 5 none) ∈ wsL_law := wch27 _ (List.mem_of_getElem? (i := 13) rfl)
theorem q638 : (Cond.fieldLink RX3 66 "GlacierGuides$Text" "first" "I") ∈ wsL_law := wch27 _ (List.mem_of_getElem? (i := 14) rfl)
theorem q639 : (Cond.fieldLink RX3 69 "GlacierGuides$Text" "second" "I") ∈ wsL_law := wch27 _ (List.mem_of_getElem? (i := 15) rfl)
theorem q640 : (Cond.methodLink RX5 205 yX5_book) ∈ wsL_law := wch27 _ (List.mem_of_getElem? (i := 16) rfl)
theorem q641 : (Cond.methodLink RX5 208 yX5_leave) ∈ wsL_law := wch27 _ (List.mem_of_getElem? (i := 17) rfl)
theorem q642 : (Cond.methodLink RX5 211 yX5_merge) ∈ wsL_law := wch27 _ (List.mem_of_getElem? (i := 18) rfl)
theorem q643 : (Cond.methodLink RX5 214 yX5_lead) ∈ wsL_law := wch27 _ (List.mem_of_getElem? (i := 19) rfl)
theorem q644 : (Cond.methodLink RX5 217 yX5_cancel) ∈ wsL_law := wch27 _ (List.mem_of_getElem? (i := 20) rfl)
theorem q645 : (Cond.methodLink RL 81 yX6_perform) ∈ wsL_law := wch27 _ (List.mem_of_getElem? (i := 21) rfl)
theorem q646 : (Cond.instanceMethod yX6_perform) ∈ wsL_law := wch27 _ (List.mem_of_getElem? (i := 22) rfl)
theorem q647 : (Cond.selects RX6 yX6_perform yX6_perform) ∈ wsL_law := wch27 _ (List.mem_of_getElem? (i := 23) rfl)
theorem q648 : (Cond.code yX6_perform cX6_perform 2 (some .int)) ∈ wsL_law := wch28 _ (List.mem_of_getElem? (i := 0) rfl)
theorem q649 : (Cond.fieldLink RX6 178 "GlacierGuidesModel" "readOne" "I") ∈ wsL_law := wch28 _ (List.mem_of_getElem? (i := 1) rfl)
theorem q650 : (Cond.fieldLink RX6 165 "GlacierGuidesModel" "at" "I") ∈ wsL_law := wch28 _ (List.mem_of_getElem? (i := 2) rfl)
theorem q651 : (Cond.fieldLink RX6 181 "GlacierGuidesModel" "readTwo" "I") ∈ wsL_law := wch28 _ (List.mem_of_getElem? (i := 3) rfl)
theorem q652 : (Cond.methodLink RX6 172 yX6_word) ∈ wsL_law := wch28 _ (List.mem_of_getElem? (i := 4) rfl)
theorem q653 : (Cond.instanceMethod yX6_word) ∈ wsL_law := wch28 _ (List.mem_of_getElem? (i := 5) rfl)
theorem q654 : (Cond.selects RX6 yX6_word yX6_word) ∈ wsL_law := wch28 _ (List.mem_of_getElem? (i := 6) rfl)
theorem q655 : (Cond.code yX6_word cX6_word 1 (some .int)) ∈ wsL_law := wch28 _ (List.mem_of_getElem? (i := 7) rfl)
theorem q656 : (Cond.methodLink RX6 168 yX6_isWord) ∈ wsL_law := wch28 _ (List.mem_of_getElem? (i := 8) rfl)
theorem q657 : (Cond.instanceMethod yX6_isWord) ∈ wsL_law := wch28 _ (List.mem_of_getElem? (i := 9) rfl)
theorem q658 : (Cond.selects RX6 yX6_isWord yX6_isWord) ∈ wsL_law := wch28 _ (List.mem_of_getElem? (i := 10) rfl)
theorem q659 : (Cond.code yX6_isWord cX6_isWord 6 (some .boolean)) ∈ wsL_law := wch28 _ (List.mem_of_getElem? (i := 11) rfl)
theorem q660 : (Cond.methodLink RX6 175 yX6_number) ∈ wsL_law := wch28 _ (List.mem_of_getElem? (i := 12) rfl)
theorem q661 : (Cond.instanceMethod yX6_number) ∈ wsL_law := wch28 _ (List.mem_of_getElem? (i := 13) rfl)
theorem q662 : (Cond.selects RX6 yX6_number yX6_number) ∈ wsL_law := wch28 _ (List.mem_of_getElem? (i := 14) rfl)
theorem q663 : (Cond.code yX6_number cX6_number 2 (some .int)) ∈ wsL_law := wch28 _ (List.mem_of_getElem? (i := 15) rfl)
theorem q664 : (Cond.methodLink RX6 184 yX6_book) ∈ wsL_law := wch28 _ (List.mem_of_getElem? (i := 16) rfl)
theorem q665 : (Cond.methodLink RX6 187 yX6_leave) ∈ wsL_law := wch28 _ (List.mem_of_getElem? (i := 17) rfl)
theorem q666 : (Cond.methodLink RX6 190 yX6_merge) ∈ wsL_law := wch28 _ (List.mem_of_getElem? (i := 18) rfl)
theorem q667 : (Cond.methodLink RX6 193 yX6_cancel) ∈ wsL_law := wch28 _ (List.mem_of_getElem? (i := 19) rfl)
theorem q668 : (Cond.methodLink RX6 196 yX6_lead) ∈ wsL_law := wch28 _ (List.mem_of_getElem? (i := 20) rfl)
theorem q669 : (Cond.methodLink RL 82 yX5_undo) ∈ wsL_law := wch28 _ (List.mem_of_getElem? (i := 21) rfl)
theorem q670 : (Cond.instanceMethod yX5_undo) ∈ wsL_law := wch28 _ (List.mem_of_getElem? (i := 22) rfl)
theorem q671 : (Cond.selects RX5 yX5_undo yX5_undo) ∈ wsL_law := wch28 _ (List.mem_of_getElem? (i := 23) rfl)
theorem q672 : (Cond.code yX5_undo cX5_undo 1 (some .int)) ∈ wsL_law := wch29 _ (List.mem_of_getElem? (i := 0) rfl)
theorem q673 : (Cond.fieldLink RX5 221 "GlacierGuides$History" "size" "I") ∈ wsL_law := wch29 _ (List.mem_of_getElem? (i := 1) rfl)
theorem q674 : (Cond.methodLink RX5 224 yX1_takeBack) ∈ wsL_law := wch29 _ (List.mem_of_getElem? (i := 2) rfl)
theorem q675 : (Cond.instanceMethod yX1_takeBack) ∈ wsL_law := wch29 _ (List.mem_of_getElem? (i := 3) rfl)
theorem q676 : (Cond.selects RX1 yX1_takeBack yX1_takeBack) ∈ wsL_law := wch29 _ (List.mem_of_getElem? (i := 4) rfl)
theorem q677 : (Cond.code yX1_takeBack cX1_takeBack 2 none) ∈ wsL_law := wch29 _ (List.mem_of_getElem? (i := 5) rfl)
theorem q678 : (Cond.methodLink RL 85 yX6_undo) ∈ wsL_law := wch29 _ (List.mem_of_getElem? (i := 6) rfl)
theorem q679 : (Cond.instanceMethod yX6_undo) ∈ wsL_law := wch29 _ (List.mem_of_getElem? (i := 7) rfl)
theorem q680 : (Cond.selects RX6 yX6_undo yX6_undo) ∈ wsL_law := wch29 _ (List.mem_of_getElem? (i := 8) rfl)
theorem q681 : (Cond.code yX6_undo cX6_undo 2 (some .int)) ∈ wsL_law := wch29 _ (List.mem_of_getElem? (i := 9) rfl)
theorem q682 : (Cond.methodLink RL 86 yX5_keep) ∈ wsL_law := wch29 _ (List.mem_of_getElem? (i := 10) rfl)
theorem q683 : (Cond.instanceMethod yX5_keep) ∈ wsL_law := wch29 _ (List.mem_of_getElem? (i := 11) rfl)
theorem q684 : (Cond.selects RX5 yX5_keep yX5_keep) ∈ wsL_law := wch29 _ (List.mem_of_getElem? (i := 12) rfl)
theorem q685 : (Cond.code yX5_keep cX5_keep 1 (some .int)) ∈ wsL_law := wch29 _ (List.mem_of_getElem? (i := 13) rfl)
theorem q686 : (Cond.fieldLink RX5 230 "GlacierGuides" "hasSnapshot" "Z") ∈ wsL_law := wch29 _ (List.mem_of_getElem? (i := 14) rfl)
theorem q687 : (Cond.methodLink RX5 227 yX2_copyFrom) ∈ wsL_law := wch29 _ (List.mem_of_getElem? (i := 15) rfl)
theorem q688 : (Cond.methodLink RL 89 yX6_keep) ∈ wsL_law := wch29 _ (List.mem_of_getElem? (i := 16) rfl)
theorem q689 : (Cond.instanceMethod yX6_keep) ∈ wsL_law := wch29 _ (List.mem_of_getElem? (i := 17) rfl)
theorem q690 : (Cond.selects RX6 yX6_keep yX6_keep) ∈ wsL_law := wch29 _ (List.mem_of_getElem? (i := 18) rfl)
theorem q691 : (Cond.code yX6_keep cX6_keep 2 (some .int)) ∈ wsL_law := wch29 _ (List.mem_of_getElem? (i := 19) rfl)
theorem q692 : (Cond.fieldLink RX6 199 "GlacierGuidesModel" "isFilled" "Z") ∈ wsL_law := wch29 _ (List.mem_of_getElem? (i := 20) rfl)
theorem q693 : (Cond.methodLink RL 90 yX5_restore) ∈ wsL_law := wch29 _ (List.mem_of_getElem? (i := 21) rfl)
theorem q694 : (Cond.instanceMethod yX5_restore) ∈ wsL_law := wch29 _ (List.mem_of_getElem? (i := 22) rfl)
theorem q695 : (Cond.selects RX5 yX5_restore yX5_restore) ∈ wsL_law := wch29 _ (List.mem_of_getElem? (i := 23) rfl)
theorem q696 : (Cond.code yX5_restore cX5_restore 1 (some .int)) ∈ wsL_law := wch30 _ (List.mem_of_getElem? (i := 0) rfl)
theorem q697 : (Cond.methodLink RL 93 yX6_restore) ∈ wsL_law := wch30 _ (List.mem_of_getElem? (i := 1) rfl)
theorem q698 : (Cond.instanceMethod yX6_restore) ∈ wsL_law := wch30 _ (List.mem_of_getElem? (i := 2) rfl)
theorem q699 : (Cond.selects RX6 yX6_restore yX6_restore) ∈ wsL_law := wch30 _ (List.mem_of_getElem? (i := 3) rfl)
theorem q700 : (Cond.code yX6_restore cX6_restore 2 (some .int)) ∈ wsL_law := wch30 _ (List.mem_of_getElem? (i := 4) rfl)
theorem q701 : (Cond.methodLink RL 94 yX5_guide) ∈ wsL_law := wch30 _ (List.mem_of_getElem? (i := 5) rfl)
theorem q702 : (Cond.instanceMethod yX5_guide) ∈ wsL_law := wch30 _ (List.mem_of_getElem? (i := 6) rfl)
theorem q703 : (Cond.selects RX5 yX5_guide yX5_guide) ∈ wsL_law := wch30 _ (List.mem_of_getElem? (i := 7) rfl)
theorem q704 : (Cond.code yX5_guide cX5_guide 4 (some .int)) ∈ wsL_law := wch30 _ (List.mem_of_getElem? (i := 8) rfl)
theorem q705 : (Cond.fieldLink RX5 240 "GlacierGuides$Guide" "toursLed" "I") ∈ wsL_law := wch30 _ (List.mem_of_getElem? (i := 9) rfl)
theorem q706 : (Cond.fieldLink RX5 243 "GlacierGuides$Guide" "guestsLed" "I") ∈ wsL_law := wch30 _ (List.mem_of_getElem? (i := 10) rfl)
theorem q707 : (Cond.methodLink RX5 234 yX0_isValidOn) ∈ wsL_law := wch30 _ (List.mem_of_getElem? (i := 11) rfl)
theorem q708 : (Cond.methodLink RX5 237 yX2_firstOpenTourOf) ∈ wsL_law := wch30 _ (List.mem_of_getElem? (i := 12) rfl)
theorem q709 : (Cond.instanceMethod yX2_firstOpenTourOf) ∈ wsL_law := wch30 _ (List.mem_of_getElem? (i := 13) rfl)
theorem q710 : (Cond.selects RX2 yX2_firstOpenTourOf yX2_firstOpenTourOf) ∈ wsL_law := wch30 _ (List.mem_of_getElem? (i := 14) rfl)
theorem q711 : (Cond.code yX2_firstOpenTourOf cX2_firstOpenTourOf 3 (some .int)) ∈ wsL_law := wch30 _ (List.mem_of_getElem? (i := 15) rfl)
theorem q712 : (Cond.methodLink RL 97 yX6_guide) ∈ wsL_law := wch30 _ (List.mem_of_getElem? (i := 16) rfl)
theorem q713 : (Cond.instanceMethod yX6_guide) ∈ wsL_law := wch30 _ (List.mem_of_getElem? (i := 17) rfl)
theorem q714 : (Cond.selects RX6 yX6_guide yX6_guide) ∈ wsL_law := wch30 _ (List.mem_of_getElem? (i := 18) rfl)
theorem q715 : (Cond.code yX6_guide cX6_guide 3 (some .int)) ∈ wsL_law := wch30 _ (List.mem_of_getElem? (i := 19) rfl)
theorem q716 : (Cond.methodLink RX6 203 yX6_lowestTour) ∈ wsL_law := wch30 _ (List.mem_of_getElem? (i := 20) rfl)
theorem q717 : (Cond.instanceMethod yX6_lowestTour) ∈ wsL_law := wch30 _ (List.mem_of_getElem? (i := 21) rfl)
theorem q718 : (Cond.selects RX6 yX6_lowestTour yX6_lowestTour) ∈ wsL_law := wch30 _ (List.mem_of_getElem? (i := 22) rfl)
theorem q719 : (Cond.code yX6_lowestTour cX6_lowestTour 3 (some .int)) ∈ wsL_law := wch30 _ (List.mem_of_getElem? (i := 23) rfl)
theorem q720 : (Cond.methodLink RL 98 yX5_tour) ∈ wsL_law := wch31 _ (List.mem_of_getElem? (i := 0) rfl)
theorem q721 : (Cond.instanceMethod yX5_tour) ∈ wsL_law := wch31 _ (List.mem_of_getElem? (i := 1) rfl)
theorem q722 : (Cond.selects RX5 yX5_tour yX5_tour) ∈ wsL_law := wch31 _ (List.mem_of_getElem? (i := 2) rfl)
theorem q723 : (Cond.code yX5_tour cX5_tour 4 (some .int)) ∈ wsL_law := wch31 _ (List.mem_of_getElem? (i := 3) rfl)
theorem q724 : (Cond.fieldLink RX5 246 "GlacierGuides$Tour" "day" "I") ∈ wsL_law := wch31 _ (List.mem_of_getElem? (i := 4) rfl)
theorem q725 : (Cond.fieldLink RX5 247 "GlacierGuides$Tour" "bridges" "I") ∈ wsL_law := wch31 _ (List.mem_of_getElem? (i := 5) rfl)
theorem q726 : (Cond.fieldLink RX5 250 "GlacierGuides$Tour" "cause" "I") ∈ wsL_law := wch31 _ (List.mem_of_getElem? (i := 6) rfl)
theorem q727 : (Cond.fieldLink RX5 253 "GlacierGuides$Tour" "base" "I") ∈ wsL_law := wch31 _ (List.mem_of_getElem? (i := 7) rfl)
theorem q728 : (Cond.methodLink RX5 256 yX2_causeAgainst) ∈ wsL_law := wch31 _ (List.mem_of_getElem? (i := 8) rfl)
theorem q729 : (Cond.methodLink RL 101 yX6_tour) ∈ wsL_law := wch31 _ (List.mem_of_getElem? (i := 9) rfl)
theorem q730 : (Cond.instanceMethod yX6_tour) ∈ wsL_law := wch31 _ (List.mem_of_getElem? (i := 10) rfl)
theorem q731 : (Cond.selects RX6 yX6_tour yX6_tour) ∈ wsL_law := wch31 _ (List.mem_of_getElem? (i := 11) rfl)
theorem q732 : (Cond.code yX6_tour cX6_tour 3 (some .int)) ∈ wsL_law := wch31 _ (List.mem_of_getElem? (i := 12) rfl)
theorem q733 : (Cond.methodLink RL 102 yX5_rope) ∈ wsL_law := wch31 _ (List.mem_of_getElem? (i := 13) rfl)
theorem q734 : (Cond.instanceMethod yX5_rope) ∈ wsL_law := wch31 _ (List.mem_of_getElem? (i := 14) rfl)
theorem q735 : (Cond.selects RX5 yX5_rope yX5_rope) ∈ wsL_law := wch31 _ (List.mem_of_getElem? (i := 15) rfl)
theorem q736 : (Cond.code yX5_rope cX5_rope 5 (some .int)) ∈ wsL_law := wch31 _ (List.mem_of_getElem? (i := 16) rfl)
theorem q737 : (Cond.fieldLink RX5 260 "GlacierGuides$Tour" "row" "[I") ∈ wsL_law := wch31 _ (List.mem_of_getElem? (i := 17) rfl)
theorem q738 : (Cond.methodLink RX5 264 yX2_guestsOnRope) ∈ wsL_law := wch31 _ (List.mem_of_getElem? (i := 18) rfl)
theorem q739 : (Cond.methodLink RL 105 yX6_rope) ∈ wsL_law := wch31 _ (List.mem_of_getElem? (i := 19) rfl)
theorem q740 : (Cond.instanceMethod yX6_rope) ∈ wsL_law := wch31 _ (List.mem_of_getElem? (i := 20) rfl)
theorem q741 : (Cond.selects RX6 yX6_rope yX6_rope) ∈ wsL_law := wch31 _ (List.mem_of_getElem? (i := 21) rfl)
theorem q742 : (Cond.code yX6_rope cX6_rope 5 (some .int)) ∈ wsL_law := wch31 _ (List.mem_of_getElem? (i := 22) rfl)
theorem q743 : (Cond.methodLink RL 106 yX5_thickness) ∈ wsL_law := wch31 _ (List.mem_of_getElem? (i := 23) rfl)
theorem q744 : (Cond.instanceMethod yX5_thickness) ∈ wsL_law := wch32 _ (List.mem_of_getElem? (i := 0) rfl)
theorem q745 : (Cond.selects RX5 yX5_thickness yX5_thickness) ∈ wsL_law := wch32 _ (List.mem_of_getElem? (i := 1) rfl)
theorem q746 : (Cond.code yX5_thickness cX5_thickness 2 (some .double)) ∈ wsL_law := wch32 _ (List.mem_of_getElem? (i := 2) rfl)
theorem q747 : (Cond.methodLink RX5 267 yX2_hasBridge) ∈ wsL_law := wch32 _ (List.mem_of_getElem? (i := 3) rfl)
theorem q748 : (Cond.instanceMethod yX2_hasBridge) ∈ wsL_law := wch32 _ (List.mem_of_getElem? (i := 4) rfl)
theorem q749 : (Cond.selects RX2 yX2_hasBridge yX2_hasBridge) ∈ wsL_law := wch32 _ (List.mem_of_getElem? (i := 5) rfl)
theorem q750 : (Cond.code yX2_hasBridge cX2_hasBridge 2 (some .boolean)) ∈ wsL_law := wch32 _ (List.mem_of_getElem? (i := 6) rfl)
theorem q751 : (Cond.methodLink RX5 270 yX5_noNumber) ∈ wsL_law := wch32 _ (List.mem_of_getElem? (i := 7) rfl)
theorem q752 : (Cond.static yX5_noNumber) ∈ wsL_law := wch32 _ (List.mem_of_getElem? (i := 8) rfl)
theorem q753 : (Cond.code yX5_noNumber cX5_noNumber 0 (some .double)) ∈ wsL_law := wch32 _ (List.mem_of_getElem? (i := 9) rfl)
theorem q754 : (Cond.constantDouble RX5 310 (9221120237041090560)) ∈ wsL_law := wch32 _ (List.mem_of_getElem? (i := 10) rfl)
theorem q755 : (Cond.methodLink RL 110 yX6_thickness) ∈ wsL_law := wch32 _ (List.mem_of_getElem? (i := 11) rfl)
theorem q756 : (Cond.instanceMethod yX6_thickness) ∈ wsL_law := wch32 _ (List.mem_of_getElem? (i := 12) rfl)
theorem q757 : (Cond.selects RX6 yX6_thickness yX6_thickness) ∈ wsL_law := wch32 _ (List.mem_of_getElem? (i := 13) rfl)
theorem q758 : (Cond.code yX6_thickness cX6_thickness 2 (some .double)) ∈ wsL_law := wch32 _ (List.mem_of_getElem? (i := 14) rfl)
theorem q759 : (Cond.methodLink RX6 208 yX6_noBridge) ∈ wsL_law := wch32 _ (List.mem_of_getElem? (i := 15) rfl)
theorem q760 : (Cond.instanceMethod yX6_noBridge) ∈ wsL_law := wch32 _ (List.mem_of_getElem? (i := 16) rfl)
theorem q761 : (Cond.selects RX6 yX6_noBridge yX6_noBridge) ∈ wsL_law := wch32 _ (List.mem_of_getElem? (i := 17) rfl)
theorem q762 : (Cond.code yX6_noBridge cX6_noBridge 2 (some .boolean)) ∈ wsL_law := wch32 _ (List.mem_of_getElem? (i := 18) rfl)
theorem q763 : (Cond.methodLink RX6 211 yX6_nothing) ∈ wsL_law := wch32 _ (List.mem_of_getElem? (i := 19) rfl)
theorem q764 : (Cond.static yX6_nothing) ∈ wsL_law := wch32 _ (List.mem_of_getElem? (i := 20) rfl)
theorem q765 : (Cond.code yX6_nothing cX6_nothing 0 (some .double)) ∈ wsL_law := wch32 _ (List.mem_of_getElem? (i := 21) rfl)
theorem q766 : (Cond.constantDouble RX6 206 (9221120237041090560)) ∈ wsL_law := wch32 _ (List.mem_of_getElem? (i := 22) rfl)
theorem q767 : (Cond.methodLink RL 111 yX5_foretold) ∈ wsL_law := wch32 _ (List.mem_of_getElem? (i := 23) rfl)
theorem q768 : (Cond.instanceMethod yX5_foretold) ∈ wsL_law := wch33 _ (List.mem_of_getElem? (i := 0) rfl)
theorem q769 : (Cond.selects RX5 yX5_foretold yX5_foretold) ∈ wsL_law := wch33 _ (List.mem_of_getElem? (i := 1) rfl)
theorem q770 : (Cond.code yX5_foretold cX5_foretold 6 (some .double)) ∈ wsL_law := wch33 _ (List.mem_of_getElem? (i := 2) rfl)
theorem q771 : (Cond.methodLink RX5 274 yX2_dayLater) ∈ wsL_law := wch33 _ (List.mem_of_getElem? (i := 3) rfl)
theorem q772 : (Cond.methodLink RL 115 yX6_foretold) ∈ wsL_law := wch33 _ (List.mem_of_getElem? (i := 4) rfl)
theorem q773 : (Cond.instanceMethod yX6_foretold) ∈ wsL_law := wch33 _ (List.mem_of_getElem? (i := 5) rfl)
theorem q774 : (Cond.selects RX6 yX6_foretold yX6_foretold) ∈ wsL_law := wch33 _ (List.mem_of_getElem? (i := 6) rfl)
theorem q775 : (Cond.code yX6_foretold cX6_foretold 6 (some .double)) ∈ wsL_law := wch33 _ (List.mem_of_getElem? (i := 7) rfl)
theorem q776 : (Cond.methodLink RL 116 yX5_needed) ∈ wsL_law := wch33 _ (List.mem_of_getElem? (i := 8) rfl)
theorem q777 : (Cond.instanceMethod yX5_needed) ∈ wsL_law := wch33 _ (List.mem_of_getElem? (i := 9) rfl)
theorem q778 : (Cond.selects RX5 yX5_needed yX5_needed) ∈ wsL_law := wch33 _ (List.mem_of_getElem? (i := 10) rfl)
theorem q779 : (Cond.code yX5_needed cX5_needed 3 (some .double)) ∈ wsL_law := wch33 _ (List.mem_of_getElem? (i := 11) rfl)
theorem q780 : (Cond.methodLink RX5 278 yX2_neededBy) ∈ wsL_law := wch33 _ (List.mem_of_getElem? (i := 12) rfl)
theorem q781 : (Cond.methodLink RL 119 yX6_needed) ∈ wsL_law := wch33 _ (List.mem_of_getElem? (i := 13) rfl)
theorem q782 : (Cond.instanceMethod yX6_needed) ∈ wsL_law := wch33 _ (List.mem_of_getElem? (i := 14) rfl)
theorem q783 : (Cond.selects RX6 yX6_needed yX6_needed) ∈ wsL_law := wch33 _ (List.mem_of_getElem? (i := 15) rfl)
theorem q784 : (Cond.code yX6_needed cX6_needed 2 (some .double)) ∈ wsL_law := wch33 _ (List.mem_of_getElem? (i := 16) rfl)
theorem q785 : (Cond.methodLink RL 120 yX5_holds) ∈ wsL_law := wch33 _ (List.mem_of_getElem? (i := 17) rfl)
theorem q786 : (Cond.instanceMethod yX5_holds) ∈ wsL_law := wch33 _ (List.mem_of_getElem? (i := 18) rfl)
theorem q787 : (Cond.selects RX5 yX5_holds yX5_holds) ∈ wsL_law := wch33 _ (List.mem_of_getElem? (i := 19) rfl)
theorem q788 : (Cond.code yX5_holds cX5_holds 4 (some .int)) ∈ wsL_law := wch33 _ (List.mem_of_getElem? (i := 20) rfl)
theorem q789 : (Cond.methodLink RL 123 yX6_holds) ∈ wsL_law := wch33 _ (List.mem_of_getElem? (i := 21) rfl)
theorem q790 : (Cond.instanceMethod yX6_holds) ∈ wsL_law := wch33 _ (List.mem_of_getElem? (i := 22) rfl)
theorem q791 : (Cond.selects RX6 yX6_holds yX6_holds) ∈ wsL_law := wch33 _ (List.mem_of_getElem? (i := 23) rfl)
theorem q792 : (Cond.code yX6_holds cX6_holds 3 (some .int)) ∈ wsL_law := wch34 _ (List.mem_of_getElem? (i := 0) rfl)
theorem q793 : (Cond.methodLink RL 124 yX5_bestGuide) ∈ wsL_law := wch34 _ (List.mem_of_getElem? (i := 1) rfl)
theorem q794 : (Cond.instanceMethod yX5_bestGuide) ∈ wsL_law := wch34 _ (List.mem_of_getElem? (i := 2) rfl)
theorem q795 : (Cond.selects RX5 yX5_bestGuide yX5_bestGuide) ∈ wsL_law := wch34 _ (List.mem_of_getElem? (i := 3) rfl)
theorem q796 : (Cond.code yX5_bestGuide cX5_bestGuide 6 (some .int)) ∈ wsL_law := wch34 _ (List.mem_of_getElem? (i := 4) rfl)
theorem q797 : (Cond.methodLink RL 127 yX6_bestGuide) ∈ wsL_law := wch34 _ (List.mem_of_getElem? (i := 5) rfl)
theorem q798 : (Cond.instanceMethod yX6_bestGuide) ∈ wsL_law := wch34 _ (List.mem_of_getElem? (i := 6) rfl)
theorem q799 : (Cond.selects RX6 yX6_bestGuide yX6_bestGuide) ∈ wsL_law := wch34 _ (List.mem_of_getElem? (i := 7) rfl)
theorem q800 : (Cond.code yX6_bestGuide cX6_bestGuide 5 (some .int)) ∈ wsL_law := wch34 _ (List.mem_of_getElem? (i := 8) rfl)
theorem q801 : (Cond.methodLink RL 128 yX5_takes) ∈ wsL_law := wch34 _ (List.mem_of_getElem? (i := 9) rfl)
theorem q802 : (Cond.instanceMethod yX5_takes) ∈ wsL_law := wch34 _ (List.mem_of_getElem? (i := 10) rfl)
theorem q803 : (Cond.selects RX5 yX5_takes yX5_takes) ∈ wsL_law := wch34 _ (List.mem_of_getElem? (i := 11) rfl)
theorem q804 : (Cond.code yX5_takes cX5_takes 4 (some .int)) ∈ wsL_law := wch34 _ (List.mem_of_getElem? (i := 12) rfl)
theorem q805 : (Cond.methodLink RL 131 yX6_takes) ∈ wsL_law := wch34 _ (List.mem_of_getElem? (i := 13) rfl)
theorem q806 : (Cond.instanceMethod yX6_takes) ∈ wsL_law := wch34 _ (List.mem_of_getElem? (i := 14) rfl)
theorem q807 : (Cond.selects RX6 yX6_takes yX6_takes) ∈ wsL_law := wch34 _ (List.mem_of_getElem? (i := 15) rfl)
theorem q808 : (Cond.code yX6_takes cX6_takes 3 (some .int)) ∈ wsL_law := wch34 _ (List.mem_of_getElem? (i := 16) rfl)
theorem q809 : (Cond.methodLink RL 132 yX5_count) ∈ wsL_law := wch34 _ (List.mem_of_getElem? (i := 17) rfl)
theorem q810 : (Cond.instanceMethod yX5_count) ∈ wsL_law := wch34 _ (List.mem_of_getElem? (i := 18) rfl)
theorem q811 : (Cond.selects RX5 yX5_count yX5_count) ∈ wsL_law := wch34 _ (List.mem_of_getElem? (i := 19) rfl)
theorem q812 : (Cond.code yX5_count cX5_count 2 (some .int)) ∈ wsL_law := wch34 _ (List.mem_of_getElem? (i := 20) rfl)
theorem q813 : (Cond.fieldLink RX5 288 "GlacierGuides$State" "refunded" "I") ∈ wsL_law := wch34 _ (List.mem_of_getElem? (i := 21) rfl)
theorem q814 : (Cond.methodLink RX5 282 yX2_toursThatAre) ∈ wsL_law := wch34 _ (List.mem_of_getElem? (i := 22) rfl)
theorem q815 : (Cond.instanceMethod yX2_toursThatAre) ∈ wsL_law := wch34 _ (List.mem_of_getElem? (i := 23) rfl)
theorem q816 : (Cond.selects RX2 yX2_toursThatAre yX2_toursThatAre) ∈ wsL_law := wch35 _ (List.mem_of_getElem? (i := 0) rfl)
theorem q817 : (Cond.code yX2_toursThatAre cX2_toursThatAre 4 (some .int)) ∈ wsL_law := wch35 _ (List.mem_of_getElem? (i := 1) rfl)
theorem q818 : (Cond.methodLink RX5 285 yX2_allPaid) ∈ wsL_law := wch35 _ (List.mem_of_getElem? (i := 2) rfl)
theorem q819 : (Cond.instanceMethod yX2_allPaid) ∈ wsL_law := wch35 _ (List.mem_of_getElem? (i := 3) rfl)
theorem q820 : (Cond.selects RX2 yX2_allPaid yX2_allPaid) ∈ wsL_law := wch35 _ (List.mem_of_getElem? (i := 4) rfl)
theorem q821 : (Cond.code yX2_allPaid cX2_allPaid 3 (some .int)) ∈ wsL_law := wch35 _ (List.mem_of_getElem? (i := 5) rfl)
theorem q822 : (Cond.methodLink RX5 291 yX2_guestsGone) ∈ wsL_law := wch35 _ (List.mem_of_getElem? (i := 6) rfl)
theorem q823 : (Cond.instanceMethod yX2_guestsGone) ∈ wsL_law := wch35 _ (List.mem_of_getElem? (i := 7) rfl)
theorem q824 : (Cond.selects RX2 yX2_guestsGone yX2_guestsGone) ∈ wsL_law := wch35 _ (List.mem_of_getElem? (i := 8) rfl)
theorem q825 : (Cond.code yX2_guestsGone cX2_guestsGone 3 (some .int)) ∈ wsL_law := wch35 _ (List.mem_of_getElem? (i := 9) rfl)
theorem q826 : (Cond.methodLink RL 135 yX6_count) ∈ wsL_law := wch35 _ (List.mem_of_getElem? (i := 10) rfl)
theorem q827 : (Cond.instanceMethod yX6_count) ∈ wsL_law := wch35 _ (List.mem_of_getElem? (i := 11) rfl)
theorem q828 : (Cond.selects RX6 yX6_count yX6_count) ∈ wsL_law := wch35 _ (List.mem_of_getElem? (i := 12) rfl)
theorem q829 : (Cond.code yX6_count cX6_count 2 (some .int)) ∈ wsL_law := wch35 _ (List.mem_of_getElem? (i := 13) rfl)
theorem q830 : (Cond.methodLink RX6 215 yX6_inState) ∈ wsL_law := wch35 _ (List.mem_of_getElem? (i := 14) rfl)
theorem q831 : (Cond.instanceMethod yX6_inState) ∈ wsL_law := wch35 _ (List.mem_of_getElem? (i := 15) rfl)
theorem q832 : (Cond.selects RX6 yX6_inState yX6_inState) ∈ wsL_law := wch35 _ (List.mem_of_getElem? (i := 16) rfl)
theorem q833 : (Cond.code yX6_inState cX6_inState 4 (some .int)) ∈ wsL_law := wch35 _ (List.mem_of_getElem? (i := 17) rfl)
theorem q834 : (Cond.methodLink RX6 218 yX6_paidAll) ∈ wsL_law := wch35 _ (List.mem_of_getElem? (i := 18) rfl)
theorem q835 : (Cond.instanceMethod yX6_paidAll) ∈ wsL_law := wch35 _ (List.mem_of_getElem? (i := 19) rfl)
theorem q836 : (Cond.selects RX6 yX6_paidAll yX6_paidAll) ∈ wsL_law := wch35 _ (List.mem_of_getElem? (i := 20) rfl)
theorem q837 : (Cond.code yX6_paidAll cX6_paidAll 3 (some .int)) ∈ wsL_law := wch35 _ (List.mem_of_getElem? (i := 21) rfl)
theorem q838 : (Cond.methodLink RX6 221 yX6_goneGuests) ∈ wsL_law := wch35 _ (List.mem_of_getElem? (i := 22) rfl)
theorem q839 : (Cond.instanceMethod yX6_goneGuests) ∈ wsL_law := wch35 _ (List.mem_of_getElem? (i := 23) rfl)
theorem q840 : (Cond.selects RX6 yX6_goneGuests yX6_goneGuests) ∈ wsL_law := wch36 _ (List.mem_of_getElem? (i := 0) rfl)
theorem q841 : (Cond.code yX6_goneGuests cX6_goneGuests 3 (some .int)) ∈ wsL_law := wch36 _ (List.mem_of_getElem? (i := 1) rfl)
theorem q842 : (Cond.methodLink RL 136 yX5_temperature) ∈ wsL_law := wch36 _ (List.mem_of_getElem? (i := 2) rfl)
theorem q843 : (Cond.instanceMethod yX5_temperature) ∈ wsL_law := wch36 _ (List.mem_of_getElem? (i := 3) rfl)
theorem q844 : (Cond.selects RX5 yX5_temperature yX5_temperature) ∈ wsL_law := wch36 _ (List.mem_of_getElem? (i := 4) rfl)
theorem q845 : (Cond.code yX5_temperature cX5_temperature 1 (some .long)) ∈ wsL_law := wch36 _ (List.mem_of_getElem? (i := 5) rfl)
theorem q846 : (Cond.methodLink RL 140 yX6_temperature) ∈ wsL_law := wch36 _ (List.mem_of_getElem? (i := 6) rfl)
theorem q847 : (Cond.instanceMethod yX6_temperature) ∈ wsL_law := wch36 _ (List.mem_of_getElem? (i := 7) rfl)
theorem q848 : (Cond.selects RX6 yX6_temperature yX6_temperature) ∈ wsL_law := wch36 _ (List.mem_of_getElem? (i := 8) rfl)
theorem q849 : (Cond.code yX6_temperature cX6_temperature 1 (some .long)) ∈ wsL_law := wch36 _ (List.mem_of_getElem? (i := 9) rfl)
theorem q850 : (Cond.methodLink RX6 224 yJxe99ae_doubleToLongBits_ccdee) ∈ wsL_law := wch36 _ (List.mem_of_getElem? (i := 10) rfl)
theorem q851 : (Cond.static yJxe99ae_doubleToLongBits_ccdee) ∈ wsL_law := wch36 _ (List.mem_of_getElem? (i := 11) rfl)
theorem q852 : (Cond.initialized RJxe99ae) ∈ wsL_law := wch36 _ (List.mem_of_getElem? (i := 12) rfl)
theorem q853 : (Cond.code yJxe99ae_doubleToLongBits_ccdee cJxe99ae_doubleToLongBits_ccdee 2 (some .long)) ∈ wsL_law := wch36 _ (List.mem_of_getElem? (i := 13) rfl)
theorem q854 : (Cond.methodLink RJxe99ae 134 ⟨"java/lang/Double", "doubleToRawLongBits", "(D)J"⟩) ∈ wsL_law := wch36 _ (List.mem_of_getElem? (i := 14) rfl)
theorem q855 : (Cond.native ⟨"java/lang/Double", "doubleToRawLongBits", "(D)J"⟩) ∈ wsL_law := wch36 _ (List.mem_of_getElem? (i := 15) rfl)
theorem q856 : (Cond.static ⟨"java/lang/Double", "doubleToRawLongBits", "(D)J"⟩) ∈ wsL_law := wch36 _ (List.mem_of_getElem? (i := 16) rfl)
theorem q857 : (Cond.constantLong RJxe99ae 137 (9221120237041090560)) ∈ wsL_law := wch36 _ (List.mem_of_getElem? (i := 17) rfl)
theorem q858 : (Cond.methodLink RJxe99ae 122 yJxe99ae_isNaN_b9ae7) ∈ wsL_law := wch36 _ (List.mem_of_getElem? (i := 18) rfl)
theorem q859 : (Cond.static yJxe99ae_isNaN_b9ae7) ∈ wsL_law := wch36 _ (List.mem_of_getElem? (i := 19) rfl)
theorem q860 : (Cond.code yJxe99ae_isNaN_b9ae7 cJxe99ae_isNaN_b9ae7 2 (some .boolean)) ∈ wsL_law := wch36 _ (List.mem_of_getElem? (i := 20) rfl)
end
section
theorem dX0_init_0 : decode cX0_init 0 = .ok (.aload_n 0, 1) := by decide +kernel
theorem dX0_init_1 : decode cX0_init 1 = .ok (.invokespecial 1, 3) := by decide +kernel
theorem dX0_init_4 : decode cX0_init 4 = .ok (.return_, 1) := by decide +kernel
theorem dX0_begin_0 : decode cX0_begin 0 = .ok (.aload_n 0, 1) := by decide +kernel
theorem dX0_begin_1 : decode cX0_begin 1 = .ok (.iload_n 1, 1) := by decide +kernel
theorem dX0_begin_2 : decode cX0_begin 2 = .ok (.iload_n 2, 1) := by decide +kernel
theorem dX0_begin_3 : decode cX0_begin 3 = .ok (.invokevirtual 7, 3) := by decide +kernel
theorem dX0_begin_6 : decode cX0_begin 6 = .ok (.aload_n 0, 1) := by decide +kernel
theorem dX0_begin_7 : decode cX0_begin 7 = .ok (.iconst 0, 1) := by decide +kernel
theorem dX0_begin_8 : decode cX0_begin 8 = .ok (.putfield 13, 3) := by decide +kernel
theorem dX0_begin_11 : decode cX0_begin 11 = .ok (.aload_n 0, 1) := by decide +kernel
theorem dX0_begin_12 : decode cX0_begin 12 = .ok (.iconst 0, 1) := by decide +kernel
theorem dX0_begin_13 : decode cX0_begin 13 = .ok (.putfield 17, 3) := by decide +kernel
theorem dX0_begin_16 : decode cX0_begin 16 = .ok (.return_, 1) := by decide +kernel
theorem dX0_copyFrom_0 : decode cX0_copyFrom 0 = .ok (.aload_n 0, 1) := by decide +kernel
theorem dX0_copyFrom_1 : decode cX0_copyFrom 1 = .ok (.aload_n 1, 1) := by decide +kernel
theorem dX0_copyFrom_2 : decode cX0_copyFrom 2 = .ok (.getfield 20, 3) := by decide +kernel
theorem dX0_copyFrom_5 : decode cX0_copyFrom 5 = .ok (.aload_n 1, 1) := by decide +kernel
theorem dX0_copyFrom_6 : decode cX0_copyFrom 6 = .ok (.getfield 23, 3) := by decide +kernel
theorem dX0_copyFrom_9 : decode cX0_copyFrom 9 = .ok (.invokevirtual 7, 3) := by decide +kernel
theorem dX0_copyFrom_12 : decode cX0_copyFrom 12 = .ok (.aload_n 0, 1) := by decide +kernel
theorem dX0_copyFrom_13 : decode cX0_copyFrom 13 = .ok (.aload_n 1, 1) := by decide +kernel
theorem dX0_copyFrom_14 : decode cX0_copyFrom 14 = .ok (.getfield 13, 3) := by decide +kernel
theorem dX0_copyFrom_17 : decode cX0_copyFrom 17 = .ok (.putfield 13, 3) := by decide +kernel
theorem dX0_copyFrom_20 : decode cX0_copyFrom 20 = .ok (.aload_n 0, 1) := by decide +kernel
theorem dX0_copyFrom_21 : decode cX0_copyFrom 21 = .ok (.aload_n 1, 1) := by decide +kernel
theorem dX0_copyFrom_22 : decode cX0_copyFrom 22 = .ok (.getfield 17, 3) := by decide +kernel
theorem dX0_copyFrom_25 : decode cX0_copyFrom 25 = .ok (.putfield 17, 3) := by decide +kernel
theorem dX0_copyFrom_28 : decode cX0_copyFrom 28 = .ok (.return_, 1) := by decide +kernel
theorem dX0_haveLed_0 : decode cX0_haveLed 0 = .ok (.aload_n 0, 1) := by decide +kernel
theorem dX0_haveLed_1 : decode cX0_haveLed 1 = .ok (.dup, 1) := by decide +kernel
theorem dX0_haveLed_2 : decode cX0_haveLed 2 = .ok (.getfield 13, 3) := by decide +kernel
theorem dX0_haveLed_5 : decode cX0_haveLed 5 = .ok (.iconst 1, 1) := by decide +kernel
theorem dX0_haveLed_6 : decode cX0_haveLed 6 = .ok (.iadd, 1) := by decide +kernel
theorem dX0_haveLed_7 : decode cX0_haveLed 7 = .ok (.putfield 13, 3) := by decide +kernel
theorem dX0_haveLed_10 : decode cX0_haveLed 10 = .ok (.aload_n 0, 1) := by decide +kernel
theorem dX0_haveLed_11 : decode cX0_haveLed 11 = .ok (.dup, 1) := by decide +kernel
theorem dX0_haveLed_12 : decode cX0_haveLed 12 = .ok (.getfield 17, 3) := by decide +kernel
theorem dX0_haveLed_15 : decode cX0_haveLed 15 = .ok (.iload_n 1, 1) := by decide +kernel
theorem dX0_haveLed_16 : decode cX0_haveLed 16 = .ok (.iadd, 1) := by decide +kernel
theorem dX0_haveLed_17 : decode cX0_haveLed 17 = .ok (.putfield 17, 3) := by decide +kernel
theorem dX0_haveLed_20 : decode cX0_haveLed 20 = .ok (.return_, 1) := by decide +kernel
theorem dX0_certify_0 : decode cX0_certify 0 = .ok (.aload_n 0, 1) := by decide +kernel
theorem dX0_certify_1 : decode cX0_certify 1 = .ok (.iload_n 1, 1) := by decide +kernel
theorem dX0_certify_2 : decode cX0_certify 2 = .ok (.putfield 20, 3) := by decide +kernel
theorem dX0_certify_5 : decode cX0_certify 5 = .ok (.aload_n 0, 1) := by decide +kernel
theorem dX0_certify_6 : decode cX0_certify 6 = .ok (.iload_n 2, 1) := by decide +kernel
theorem dX0_certify_7 : decode cX0_certify 7 = .ok (.putfield 23, 3) := by decide +kernel
theorem dX0_certify_10 : decode cX0_certify 10 = .ok (.return_, 1) := by decide +kernel
theorem dX0_isValidOn_0 : decode cX0_isValidOn 0 = .ok (.iload_n 1, 1) := by decide +kernel
theorem dX0_isValidOn_1 : decode cX0_isValidOn 1 = .ok (.aload_n 0, 1) := by decide +kernel
theorem dX0_isValidOn_2 : decode cX0_isValidOn 2 = .ok (.getfield 23, 3) := by decide +kernel
theorem dX0_isValidOn_5 : decode cX0_isValidOn 5 = .ok (.if_icmp .gt 7, 3) := by decide +kernel
theorem dX0_isValidOn_8 : decode cX0_isValidOn 8 = .ok (.iconst 1, 1) := by decide +kernel
theorem dX0_isValidOn_9 : decode cX0_isValidOn 9 = .ok (.goto 4, 3) := by decide +kernel
theorem dX0_isValidOn_12 : decode cX0_isValidOn 12 = .ok (.iconst 0, 1) := by decide +kernel
theorem dX0_isValidOn_13 : decode cX0_isValidOn 13 = .ok (.ireturn, 1) := by decide +kernel
theorem dX1_init_0 : decode cX1_init 0 = .ok (.aload_n 0, 1) := by decide +kernel
theorem dX1_init_1 : decode cX1_init 1 = .ok (.invokespecial 3, 3) := by decide +kernel
theorem dX1_init_4 : decode cX1_init 4 = .ok (.aload_n 0, 1) := by decide +kernel
theorem dX1_init_5 : decode cX1_init 5 = .ok (.iconst 5, 1) := by decide +kernel
theorem dX1_init_6 : decode cX1_init 6 = .ok (.anewarray 9, 3) := by decide +kernel
theorem dX1_init_9 : decode cX1_init 9 = .ok (.putfield 11, 3) := by decide +kernel
theorem dX1_init_12 : decode cX1_init 12 = .ok (.iconst 0, 1) := by decide +kernel
theorem dX1_init_13 : decode cX1_init 13 = .ok (.istore_n 1, 1) := by decide +kernel
theorem dX1_init_14 : decode cX1_init 14 = .ok (.iload_n 1, 1) := by decide +kernel
theorem dX1_init_15 : decode cX1_init 15 = .ok (.iconst 5, 1) := by decide +kernel
theorem dX1_init_16 : decode cX1_init 16 = .ok (.if_icmp .ge 22, 3) := by decide +kernel
theorem dX1_init_19 : decode cX1_init 19 = .ok (.aload_n 0, 1) := by decide +kernel
theorem dX1_init_20 : decode cX1_init 20 = .ok (.getfield 11, 3) := by decide +kernel
theorem dX1_init_23 : decode cX1_init 23 = .ok (.iload_n 1, 1) := by decide +kernel
theorem dX1_init_24 : decode cX1_init 24 = .ok (.new 9, 3) := by decide +kernel
theorem dX1_init_27 : decode cX1_init 27 = .ok (.dup, 1) := by decide +kernel
theorem dX1_init_28 : decode cX1_init 28 = .ok (.invokespecial 17, 3) := by decide +kernel
theorem dX1_init_31 : decode cX1_init 31 = .ok (.aastore, 1) := by decide +kernel
theorem dX1_init_32 : decode cX1_init 32 = .ok (.iinc 1 1, 3) := by decide +kernel
theorem dX1_init_35 : decode cX1_init 35 = .ok (.goto (-21), 3) := by decide +kernel
theorem dX1_init_38 : decode cX1_init 38 = .ok (.return_, 1) := by decide +kernel
theorem dX1_record_0 : decode cX1_record 0 = .ok (.aload_n 0, 1) := by decide +kernel
theorem dX1_record_1 : decode cX1_record 1 = .ok (.getfield 18, 3) := by decide +kernel
theorem dX1_record_4 : decode cX1_record 4 = .ok (.iconst 5, 1) := by decide +kernel
theorem dX1_record_5 : decode cX1_record 5 = .ok (.if_icmp .ne 25, 3) := by decide +kernel
theorem dX1_record_8 : decode cX1_record 8 = .ok (.aload_n 0, 1) := by decide +kernel
theorem dX1_record_9 : decode cX1_record 9 = .ok (.aload_n 0, 1) := by decide +kernel
theorem dX1_record_10 : decode cX1_record 10 = .ok (.getfield 22, 3) := by decide +kernel
theorem dX1_record_13 : decode cX1_record 13 = .ok (.iconst 1, 1) := by decide +kernel
theorem dX1_record_14 : decode cX1_record 14 = .ok (.iadd, 1) := by decide +kernel
theorem dX1_record_15 : decode cX1_record 15 = .ok (.iconst 5, 1) := by decide +kernel
theorem dX1_record_16 : decode cX1_record 16 = .ok (.irem, 1) := by decide +kernel
theorem dX1_record_17 : decode cX1_record 17 = .ok (.putfield 22, 3) := by decide +kernel
theorem dX1_record_20 : decode cX1_record 20 = .ok (.aload_n 0, 1) := by decide +kernel
theorem dX1_record_21 : decode cX1_record 21 = .ok (.dup, 1) := by decide +kernel
theorem dX1_record_22 : decode cX1_record 22 = .ok (.getfield 18, 3) := by decide +kernel
theorem dX1_record_25 : decode cX1_record 25 = .ok (.iconst 1, 1) := by decide +kernel
theorem dX1_record_26 : decode cX1_record 26 = .ok (.isub, 1) := by decide +kernel
theorem dX1_record_27 : decode cX1_record 27 = .ok (.putfield 18, 3) := by decide +kernel
theorem dX1_record_30 : decode cX1_record 30 = .ok (.aload_n 0, 1) := by decide +kernel
theorem dX1_record_31 : decode cX1_record 31 = .ok (.getfield 11, 3) := by decide +kernel
theorem dX1_record_34 : decode cX1_record 34 = .ok (.aload_n 0, 1) := by decide +kernel
theorem dX1_record_35 : decode cX1_record 35 = .ok (.getfield 22, 3) := by decide +kernel
theorem dX1_record_38 : decode cX1_record 38 = .ok (.aload_n 0, 1) := by decide +kernel
theorem dX1_record_39 : decode cX1_record 39 = .ok (.getfield 18, 3) := by decide +kernel
theorem dX1_record_42 : decode cX1_record 42 = .ok (.iadd, 1) := by decide +kernel
theorem dX1_record_43 : decode cX1_record 43 = .ok (.iconst 5, 1) := by decide +kernel
theorem dX1_record_44 : decode cX1_record 44 = .ok (.irem, 1) := by decide +kernel
theorem dX1_record_45 : decode cX1_record 45 = .ok (.aaload, 1) := by decide +kernel
theorem dX1_record_46 : decode cX1_record 46 = .ok (.aload_n 1, 1) := by decide +kernel
theorem dX1_record_47 : decode cX1_record 47 = .ok (.invokevirtual 25, 3) := by decide +kernel
theorem dX1_record_50 : decode cX1_record 50 = .ok (.aload_n 0, 1) := by decide +kernel
theorem dX1_record_51 : decode cX1_record 51 = .ok (.dup, 1) := by decide +kernel
theorem dX1_record_52 : decode cX1_record 52 = .ok (.getfield 18, 3) := by decide +kernel
theorem dX1_record_55 : decode cX1_record 55 = .ok (.iconst 1, 1) := by decide +kernel
theorem dX1_record_56 : decode cX1_record 56 = .ok (.iadd, 1) := by decide +kernel
theorem dX1_record_57 : decode cX1_record 57 = .ok (.putfield 18, 3) := by decide +kernel
theorem dX1_record_60 : decode cX1_record 60 = .ok (.return_, 1) := by decide +kernel
theorem dX1_takeBack_0 : decode cX1_takeBack 0 = .ok (.aload_n 0, 1) := by decide +kernel
theorem dX1_takeBack_1 : decode cX1_takeBack 1 = .ok (.getfield 18, 3) := by decide +kernel
theorem dX1_takeBack_4 : decode cX1_takeBack 4 = .ok (.ifCond .le 33, 3) := by decide +kernel
theorem dX1_takeBack_7 : decode cX1_takeBack 7 = .ok (.aload_n 0, 1) := by decide +kernel
theorem dX1_takeBack_8 : decode cX1_takeBack 8 = .ok (.dup, 1) := by decide +kernel
theorem dX1_takeBack_9 : decode cX1_takeBack 9 = .ok (.getfield 18, 3) := by decide +kernel
theorem dX1_takeBack_12 : decode cX1_takeBack 12 = .ok (.iconst 1, 1) := by decide +kernel
theorem dX1_takeBack_13 : decode cX1_takeBack 13 = .ok (.isub, 1) := by decide +kernel
theorem dX1_takeBack_14 : decode cX1_takeBack 14 = .ok (.putfield 18, 3) := by decide +kernel
theorem dX1_takeBack_17 : decode cX1_takeBack 17 = .ok (.aload_n 1, 1) := by decide +kernel
theorem dX1_takeBack_18 : decode cX1_takeBack 18 = .ok (.aload_n 0, 1) := by decide +kernel
theorem dX1_takeBack_19 : decode cX1_takeBack 19 = .ok (.getfield 11, 3) := by decide +kernel
theorem dX1_takeBack_22 : decode cX1_takeBack 22 = .ok (.aload_n 0, 1) := by decide +kernel
theorem dX1_takeBack_23 : decode cX1_takeBack 23 = .ok (.getfield 22, 3) := by decide +kernel
theorem dX1_takeBack_26 : decode cX1_takeBack 26 = .ok (.aload_n 0, 1) := by decide +kernel
theorem dX1_takeBack_27 : decode cX1_takeBack 27 = .ok (.getfield 18, 3) := by decide +kernel
theorem dX1_takeBack_30 : decode cX1_takeBack 30 = .ok (.iadd, 1) := by decide +kernel
theorem dX1_takeBack_31 : decode cX1_takeBack 31 = .ok (.iconst 5, 1) := by decide +kernel
theorem dX1_takeBack_32 : decode cX1_takeBack 32 = .ok (.irem, 1) := by decide +kernel
theorem dX1_takeBack_33 : decode cX1_takeBack 33 = .ok (.aaload, 1) := by decide +kernel
theorem dX1_takeBack_34 : decode cX1_takeBack 34 = .ok (.invokevirtual 25, 3) := by decide +kernel
theorem dX1_takeBack_37 : decode cX1_takeBack 37 = .ok (.return_, 1) := by decide +kernel
theorem dX2_init_0 : decode cX2_init 0 = .ok (.aload_n 0, 1) := by decide +kernel
theorem dX2_init_1 : decode cX2_init 1 = .ok (.invokespecial 3, 3) := by decide +kernel
theorem dX2_init_4 : decode cX2_init 4 = .ok (.aload_n 0, 1) := by decide +kernel
theorem dX2_init_5 : decode cX2_init 5 = .ok (.bipush 8, 2) := by decide +kernel
theorem dX2_init_7 : decode cX2_init 7 = .ok (.anewarray 9, 3) := by decide +kernel
theorem dX2_init_10 : decode cX2_init 10 = .ok (.putfield 11, 3) := by decide +kernel
theorem dX2_init_13 : decode cX2_init 13 = .ok (.iconst 0, 1) := by decide +kernel
theorem dX2_init_14 : decode cX2_init 14 = .ok (.istore_n 1, 1) := by decide +kernel
theorem dX2_init_15 : decode cX2_init 15 = .ok (.iload_n 1, 1) := by decide +kernel
theorem dX2_init_16 : decode cX2_init 16 = .ok (.bipush 8, 2) := by decide +kernel
theorem dX2_init_18 : decode cX2_init 18 = .ok (.if_icmp .ge 22, 3) := by decide +kernel
theorem dX2_init_21 : decode cX2_init 21 = .ok (.aload_n 0, 1) := by decide +kernel
theorem dX2_init_22 : decode cX2_init 22 = .ok (.getfield 11, 3) := by decide +kernel
theorem dX2_init_25 : decode cX2_init 25 = .ok (.iload_n 1, 1) := by decide +kernel
theorem dX2_init_26 : decode cX2_init 26 = .ok (.new 9, 3) := by decide +kernel
theorem dX2_init_29 : decode cX2_init 29 = .ok (.dup, 1) := by decide +kernel
theorem dX2_init_30 : decode cX2_init 30 = .ok (.invokespecial 17, 3) := by decide +kernel
theorem dX2_init_33 : decode cX2_init 33 = .ok (.aastore, 1) := by decide +kernel
theorem dX2_init_34 : decode cX2_init 34 = .ok (.iinc 1 1, 3) := by decide +kernel
theorem dX2_init_37 : decode cX2_init 37 = .ok (.goto (-22), 3) := by decide +kernel
theorem dX2_init_40 : decode cX2_init 40 = .ok (.aload_n 0, 1) := by decide +kernel
theorem dX2_init_41 : decode cX2_init 41 = .ok (.bipush 6, 2) := by decide +kernel
theorem dX2_init_43 : decode cX2_init 43 = .ok (.newarray .double, 2) := by decide +kernel
theorem dX2_init_45 : decode cX2_init 45 = .ok (.putfield 18, 3) := by decide +kernel
theorem dX2_init_48 : decode cX2_init 48 = .ok (.aload_n 0, 1) := by decide +kernel
theorem dX2_init_49 : decode cX2_init 49 = .ok (.bipush 10, 2) := by decide +kernel
theorem dX2_init_51 : decode cX2_init 51 = .ok (.anewarray 22, 3) := by decide +kernel
theorem dX2_init_54 : decode cX2_init 54 = .ok (.putfield 24, 3) := by decide +kernel
theorem dX2_init_57 : decode cX2_init 57 = .ok (.iconst 0, 1) := by decide +kernel
theorem dX2_init_58 : decode cX2_init 58 = .ok (.istore_n 1, 1) := by decide +kernel
theorem dX2_init_59 : decode cX2_init 59 = .ok (.iload_n 1, 1) := by decide +kernel
theorem dX2_init_60 : decode cX2_init 60 = .ok (.bipush 10, 2) := by decide +kernel
theorem dX2_init_62 : decode cX2_init 62 = .ok (.if_icmp .ge 22, 3) := by decide +kernel
theorem dX2_init_65 : decode cX2_init 65 = .ok (.aload_n 0, 1) := by decide +kernel
theorem dX2_init_66 : decode cX2_init 66 = .ok (.getfield 24, 3) := by decide +kernel
theorem dX2_init_69 : decode cX2_init 69 = .ok (.iload_n 1, 1) := by decide +kernel
theorem dX2_init_70 : decode cX2_init 70 = .ok (.new 22, 3) := by decide +kernel
theorem dX2_init_73 : decode cX2_init 73 = .ok (.dup, 1) := by decide +kernel
theorem dX2_init_74 : decode cX2_init 74 = .ok (.invokespecial 28, 3) := by decide +kernel
theorem dX2_init_77 : decode cX2_init 77 = .ok (.aastore, 1) := by decide +kernel
theorem dX2_init_78 : decode cX2_init 78 = .ok (.iinc 1 1, 3) := by decide +kernel
theorem dX2_init_81 : decode cX2_init 81 = .ok (.goto (-22), 3) := by decide +kernel
theorem dX2_init_84 : decode cX2_init 84 = .ok (.return_, 1) := by decide +kernel
theorem dX2_copyFrom_0 : decode cX2_copyFrom 0 = .ok (.iconst 0, 1) := by decide +kernel
theorem dX2_copyFrom_1 : decode cX2_copyFrom 1 = .ok (.istore_n 2, 1) := by decide +kernel
theorem dX2_copyFrom_2 : decode cX2_copyFrom 2 = .ok (.iload_n 2, 1) := by decide +kernel
theorem dX2_copyFrom_3 : decode cX2_copyFrom 3 = .ok (.aload_n 1, 1) := by decide +kernel
theorem dX2_copyFrom_4 : decode cX2_copyFrom 4 = .ok (.getfield 29, 3) := by decide +kernel
theorem dX2_copyFrom_7 : decode cX2_copyFrom 7 = .ok (.if_icmp .ge 24, 3) := by decide +kernel
theorem dX2_copyFrom_10 : decode cX2_copyFrom 10 = .ok (.aload_n 0, 1) := by decide +kernel
theorem dX2_copyFrom_11 : decode cX2_copyFrom 11 = .ok (.getfield 11, 3) := by decide +kernel
theorem dX2_copyFrom_14 : decode cX2_copyFrom 14 = .ok (.iload_n 2, 1) := by decide +kernel
theorem dX2_copyFrom_15 : decode cX2_copyFrom 15 = .ok (.aaload, 1) := by decide +kernel
theorem dX2_copyFrom_16 : decode cX2_copyFrom 16 = .ok (.aload_n 1, 1) := by decide +kernel
theorem dX2_copyFrom_17 : decode cX2_copyFrom 17 = .ok (.getfield 11, 3) := by decide +kernel
theorem dX2_copyFrom_20 : decode cX2_copyFrom 20 = .ok (.iload_n 2, 1) := by decide +kernel
theorem dX2_copyFrom_21 : decode cX2_copyFrom 21 = .ok (.aaload, 1) := by decide +kernel
theorem dX2_copyFrom_22 : decode cX2_copyFrom 22 = .ok (.invokevirtual 33, 3) := by decide +kernel
theorem dX2_copyFrom_25 : decode cX2_copyFrom 25 = .ok (.iinc 2 1, 3) := by decide +kernel
theorem dX2_copyFrom_28 : decode cX2_copyFrom 28 = .ok (.goto (-26), 3) := by decide +kernel
theorem dX2_copyFrom_31 : decode cX2_copyFrom 31 = .ok (.aload_n 1, 1) := by decide +kernel
theorem dX2_copyFrom_32 : decode cX2_copyFrom 32 = .ok (.getfield 18, 3) := by decide +kernel
theorem dX2_copyFrom_35 : decode cX2_copyFrom 35 = .ok (.iconst 0, 1) := by decide +kernel
theorem dX2_copyFrom_36 : decode cX2_copyFrom 36 = .ok (.aload_n 0, 1) := by decide +kernel
theorem dX2_copyFrom_37 : decode cX2_copyFrom 37 = .ok (.getfield 18, 3) := by decide +kernel
theorem dX2_copyFrom_40 : decode cX2_copyFrom 40 = .ok (.iconst 0, 1) := by decide +kernel
theorem dX2_copyFrom_41 : decode cX2_copyFrom 41 = .ok (.bipush 6, 2) := by decide +kernel
theorem dX2_copyFrom_43 : decode cX2_copyFrom 43 = .ok (.invokestatic 37, 3) := by decide +kernel
theorem dX2_copyFrom_46 : decode cX2_copyFrom 46 = .ok (.iconst 0, 1) := by decide +kernel
theorem dX2_copyFrom_47 : decode cX2_copyFrom 47 = .ok (.istore_n 2, 1) := by decide +kernel
theorem dX2_copyFrom_48 : decode cX2_copyFrom 48 = .ok (.iload_n 2, 1) := by decide +kernel
theorem dX2_copyFrom_49 : decode cX2_copyFrom 49 = .ok (.aload_n 1, 1) := by decide +kernel
theorem dX2_copyFrom_50 : decode cX2_copyFrom 50 = .ok (.getfield 43, 3) := by decide +kernel
theorem dX2_copyFrom_53 : decode cX2_copyFrom 53 = .ok (.if_icmp .ge 24, 3) := by decide +kernel
theorem dX2_copyFrom_56 : decode cX2_copyFrom 56 = .ok (.aload_n 0, 1) := by decide +kernel
theorem dX2_copyFrom_57 : decode cX2_copyFrom 57 = .ok (.getfield 24, 3) := by decide +kernel
theorem dX2_copyFrom_60 : decode cX2_copyFrom 60 = .ok (.iload_n 2, 1) := by decide +kernel
theorem dX2_copyFrom_61 : decode cX2_copyFrom 61 = .ok (.aaload, 1) := by decide +kernel
theorem dX2_copyFrom_62 : decode cX2_copyFrom 62 = .ok (.aload_n 1, 1) := by decide +kernel
theorem dX2_copyFrom_63 : decode cX2_copyFrom 63 = .ok (.getfield 24, 3) := by decide +kernel
theorem dX2_copyFrom_66 : decode cX2_copyFrom 66 = .ok (.iload_n 2, 1) := by decide +kernel
theorem dX2_copyFrom_67 : decode cX2_copyFrom 67 = .ok (.aaload, 1) := by decide +kernel
theorem dX2_copyFrom_68 : decode cX2_copyFrom 68 = .ok (.invokevirtual 46, 3) := by decide +kernel
theorem dX2_copyFrom_71 : decode cX2_copyFrom 71 = .ok (.iinc 2 1, 3) := by decide +kernel
theorem dX2_copyFrom_74 : decode cX2_copyFrom 74 = .ok (.goto (-26), 3) := by decide +kernel
theorem dX2_copyFrom_77 : decode cX2_copyFrom 77 = .ok (.aload_n 0, 1) := by decide +kernel
theorem dX2_copyFrom_78 : decode cX2_copyFrom 78 = .ok (.aload_n 1, 1) := by decide +kernel
theorem dX2_copyFrom_79 : decode cX2_copyFrom 79 = .ok (.getfield 29, 3) := by decide +kernel
theorem dX2_copyFrom_82 : decode cX2_copyFrom 82 = .ok (.putfield 29, 3) := by decide +kernel
theorem dX2_copyFrom_85 : decode cX2_copyFrom 85 = .ok (.aload_n 0, 1) := by decide +kernel
theorem dX2_copyFrom_86 : decode cX2_copyFrom 86 = .ok (.aload_n 1, 1) := by decide +kernel
theorem dX2_copyFrom_87 : decode cX2_copyFrom 87 = .ok (.getfield 49, 3) := by decide +kernel
theorem dX2_copyFrom_90 : decode cX2_copyFrom 90 = .ok (.putfield 49, 3) := by decide +kernel
theorem dX2_copyFrom_93 : decode cX2_copyFrom 93 = .ok (.aload_n 0, 1) := by decide +kernel
theorem dX2_copyFrom_94 : decode cX2_copyFrom 94 = .ok (.aload_n 1, 1) := by decide +kernel
theorem dX2_copyFrom_95 : decode cX2_copyFrom 95 = .ok (.getfield 43, 3) := by decide +kernel
theorem dX2_copyFrom_98 : decode cX2_copyFrom 98 = .ok (.putfield 43, 3) := by decide +kernel
theorem dX2_copyFrom_101 : decode cX2_copyFrom 101 = .ok (.aload_n 0, 1) := by decide +kernel
theorem dX2_copyFrom_102 : decode cX2_copyFrom 102 = .ok (.aload_n 1, 1) := by decide +kernel
theorem dX2_copyFrom_103 : decode cX2_copyFrom 103 = .ok (.getfield 52, 3) := by decide +kernel
theorem dX2_copyFrom_106 : decode cX2_copyFrom 106 = .ok (.putfield 52, 3) := by decide +kernel
theorem dX2_copyFrom_109 : decode cX2_copyFrom 109 = .ok (.aload_n 0, 1) := by decide +kernel
theorem dX2_copyFrom_110 : decode cX2_copyFrom 110 = .ok (.aload_n 1, 1) := by decide +kernel
theorem dX2_copyFrom_111 : decode cX2_copyFrom 111 = .ok (.getfield 55, 3) := by decide +kernel
theorem dX2_copyFrom_114 : decode cX2_copyFrom 114 = .ok (.putfield 55, 3) := by decide +kernel
theorem dX2_copyFrom_117 : decode cX2_copyFrom 117 = .ok (.aload_n 0, 1) := by decide +kernel
theorem dX2_copyFrom_118 : decode cX2_copyFrom 118 = .ok (.aload_n 1, 1) := by decide +kernel
theorem dX2_copyFrom_119 : decode cX2_copyFrom 119 = .ok (.getfield 59, 3) := by decide +kernel
theorem dX2_copyFrom_122 : decode cX2_copyFrom 122 = .ok (.putfield 59, 3) := by decide +kernel
theorem dX2_copyFrom_125 : decode cX2_copyFrom 125 = .ok (.aload_n 0, 1) := by decide +kernel
theorem dX2_copyFrom_126 : decode cX2_copyFrom 126 = .ok (.aload_n 1, 1) := by decide +kernel
theorem dX2_copyFrom_127 : decode cX2_copyFrom 127 = .ok (.getfield 63, 3) := by decide +kernel
theorem dX2_copyFrom_130 : decode cX2_copyFrom 130 = .ok (.putfield 63, 3) := by decide +kernel
theorem dX2_copyFrom_133 : decode cX2_copyFrom 133 = .ok (.return_, 1) := by decide +kernel
theorem dX2_guideAt_0 : decode cX2_guideAt 0 = .ok (.iload_n 1, 1) := by decide +kernel
theorem dX2_guideAt_1 : decode cX2_guideAt 1 = .ok (.ifCond .lt 20, 3) := by decide +kernel
theorem dX2_guideAt_4 : decode cX2_guideAt 4 = .ok (.iload_n 1, 1) := by decide +kernel
theorem dX2_guideAt_5 : decode cX2_guideAt 5 = .ok (.aload_n 0, 1) := by decide +kernel
theorem dX2_guideAt_6 : decode cX2_guideAt 6 = .ok (.getfield 29, 3) := by decide +kernel
theorem dX2_guideAt_9 : decode cX2_guideAt 9 = .ok (.if_icmp .ge 12, 3) := by decide +kernel
theorem dX2_guideAt_12 : decode cX2_guideAt 12 = .ok (.aload_n 0, 1) := by decide +kernel
theorem dX2_guideAt_13 : decode cX2_guideAt 13 = .ok (.getfield 11, 3) := by decide +kernel
theorem dX2_guideAt_16 : decode cX2_guideAt 16 = .ok (.iload_n 1, 1) := by decide +kernel
theorem dX2_guideAt_17 : decode cX2_guideAt 17 = .ok (.aaload, 1) := by decide +kernel
theorem dX2_guideAt_18 : decode cX2_guideAt 18 = .ok (.goto 4, 3) := by decide +kernel
theorem dX2_guideAt_21 : decode cX2_guideAt 21 = .ok (.aconst_null, 1) := by decide +kernel
theorem dX2_guideAt_22 : decode cX2_guideAt 22 = .ok (.areturn, 1) := by decide +kernel
theorem dX2_tourAt_0 : decode cX2_tourAt 0 = .ok (.iload_n 1, 1) := by decide +kernel
theorem dX2_tourAt_1 : decode cX2_tourAt 1 = .ok (.ifCond .lt 20, 3) := by decide +kernel
theorem dX2_tourAt_4 : decode cX2_tourAt 4 = .ok (.iload_n 1, 1) := by decide +kernel
theorem dX2_tourAt_5 : decode cX2_tourAt 5 = .ok (.aload_n 0, 1) := by decide +kernel
theorem dX2_tourAt_6 : decode cX2_tourAt 6 = .ok (.getfield 43, 3) := by decide +kernel
theorem dX2_tourAt_9 : decode cX2_tourAt 9 = .ok (.if_icmp .ge 12, 3) := by decide +kernel
theorem dX2_tourAt_12 : decode cX2_tourAt 12 = .ok (.aload_n 0, 1) := by decide +kernel
theorem dX2_tourAt_13 : decode cX2_tourAt 13 = .ok (.getfield 24, 3) := by decide +kernel
theorem dX2_tourAt_16 : decode cX2_tourAt 16 = .ok (.iload_n 1, 1) := by decide +kernel
theorem dX2_tourAt_17 : decode cX2_tourAt 17 = .ok (.aaload, 1) := by decide +kernel
theorem dX2_tourAt_18 : decode cX2_tourAt 18 = .ok (.goto 4, 3) := by decide +kernel
theorem dX2_tourAt_21 : decode cX2_tourAt 21 = .ok (.aconst_null, 1) := by decide +kernel
theorem dX2_tourAt_22 : decode cX2_tourAt 22 = .ok (.areturn, 1) := by decide +kernel
theorem dX2_hasBridge_0 : decode cX2_hasBridge 0 = .ok (.iload_n 1, 1) := by decide +kernel
theorem dX2_hasBridge_1 : decode cX2_hasBridge 1 = .ok (.ifCond .lt 15, 3) := by decide +kernel
theorem dX2_hasBridge_4 : decode cX2_hasBridge 4 = .ok (.iload_n 1, 1) := by decide +kernel
theorem dX2_hasBridge_5 : decode cX2_hasBridge 5 = .ok (.aload_n 0, 1) := by decide +kernel
theorem dX2_hasBridge_6 : decode cX2_hasBridge 6 = .ok (.getfield 49, 3) := by decide +kernel
theorem dX2_hasBridge_9 : decode cX2_hasBridge 9 = .ok (.if_icmp .ge 7, 3) := by decide +kernel
theorem dX2_hasBridge_12 : decode cX2_hasBridge 12 = .ok (.iconst 1, 1) := by decide +kernel
theorem dX2_hasBridge_13 : decode cX2_hasBridge 13 = .ok (.goto 4, 3) := by decide +kernel
theorem dX2_hasBridge_16 : decode cX2_hasBridge 16 = .ok (.iconst 0, 1) := by decide +kernel
theorem dX2_hasBridge_17 : decode cX2_hasBridge 17 = .ok (.ireturn, 1) := by decide +kernel
theorem dX2_hasBridges_0 : decode cX2_hasBridges 0 = .ok (.iload_n 1, 1) := by decide +kernel
theorem dX2_hasBridges_1 : decode cX2_hasBridges 1 = .ok (.iconst 1, 1) := by decide +kernel
theorem dX2_hasBridges_2 : decode cX2_hasBridges 2 = .ok (.aload_n 0, 1) := by decide +kernel
theorem dX2_hasBridges_3 : decode cX2_hasBridges 3 = .ok (.getfield 49, 3) := by decide +kernel
theorem dX2_hasBridges_6 : decode cX2_hasBridges 6 = .ok (.ishl, 1) := by decide +kernel
theorem dX2_hasBridges_7 : decode cX2_hasBridges 7 = .ok (.iconst 1, 1) := by decide +kernel
theorem dX2_hasBridges_8 : decode cX2_hasBridges 8 = .ok (.isub, 1) := by decide +kernel
theorem dX2_hasBridges_9 : decode cX2_hasBridges 9 = .ok (.iconst (-1), 1) := by decide +kernel
theorem dX2_hasBridges_10 : decode cX2_hasBridges 10 = .ok (.ixor, 1) := by decide +kernel
theorem dX2_hasBridges_11 : decode cX2_hasBridges 11 = .ok (.iand, 1) := by decide +kernel
theorem dX2_hasBridges_12 : decode cX2_hasBridges 12 = .ok (.ifCond .ne 7, 3) := by decide +kernel
theorem dX2_hasBridges_15 : decode cX2_hasBridges 15 = .ok (.iconst 1, 1) := by decide +kernel
theorem dX2_hasBridges_16 : decode cX2_hasBridges 16 = .ok (.goto 4, 3) := by decide +kernel
theorem dX2_hasBridges_19 : decode cX2_hasBridges 19 = .ok (.iconst 0, 1) := by decide +kernel
theorem dX2_hasBridges_20 : decode cX2_hasBridges 20 = .ok (.ireturn, 1) := by decide +kernel
theorem dX2_mayLead_0 : decode cX2_mayLead 0 = .ok (.aload_n 2, 1) := by decide +kernel
theorem dX2_mayLead_1 : decode cX2_mayLead 1 = .ok (.getfield 66, 3) := by decide +kernel
theorem dX2_mayLead_4 : decode cX2_mayLead 4 = .ok (.ifCond .ne 35, 3) := by decide +kernel
theorem dX2_mayLead_7 : decode cX2_mayLead 7 = .ok (.aload_n 0, 1) := by decide +kernel
theorem dX2_mayLead_8 : decode cX2_mayLead 8 = .ok (.getfield 11, 3) := by decide +kernel
theorem dX2_mayLead_11 : decode cX2_mayLead 11 = .ok (.iload_n 1, 1) := by decide +kernel
theorem dX2_mayLead_12 : decode cX2_mayLead 12 = .ok (.aaload, 1) := by decide +kernel
theorem dX2_mayLead_13 : decode cX2_mayLead 13 = .ok (.aload_n 2, 1) := by decide +kernel
theorem dX2_mayLead_14 : decode cX2_mayLead 14 = .ok (.getfield 69, 3) := by decide +kernel
theorem dX2_mayLead_17 : decode cX2_mayLead 17 = .ok (.invokevirtual 70, 3) := by decide +kernel
theorem dX2_mayLead_20 : decode cX2_mayLead 20 = .ok (.ifCond .eq 19, 3) := by decide +kernel
theorem dX2_mayLead_23 : decode cX2_mayLead 23 = .ok (.aload_n 0, 1) := by decide +kernel
theorem dX2_mayLead_24 : decode cX2_mayLead 24 = .ok (.aload_n 2, 1) := by decide +kernel
theorem dX2_mayLead_25 : decode cX2_mayLead 25 = .ok (.getfield 69, 3) := by decide +kernel
theorem dX2_mayLead_28 : decode cX2_mayLead 28 = .ok (.iload_n 1, 1) := by decide +kernel
theorem dX2_mayLead_29 : decode cX2_mayLead 29 = .ok (.invokevirtual 74, 3) := by decide +kernel
theorem dX2_mayLead_32 : decode cX2_mayLead 32 = .ok (.ifCond .ne 7, 3) := by decide +kernel
theorem dX2_mayLead_35 : decode cX2_mayLead 35 = .ok (.iconst 1, 1) := by decide +kernel
theorem dX2_mayLead_36 : decode cX2_mayLead 36 = .ok (.goto 4, 3) := by decide +kernel
theorem dX2_mayLead_39 : decode cX2_mayLead 39 = .ok (.iconst 0, 1) := by decide +kernel
theorem dX2_mayLead_40 : decode cX2_mayLead 40 = .ok (.ireturn, 1) := by decide +kernel
theorem dX2_isBusyOn_0 : decode cX2_isBusyOn 0 = .ok (.iconst 0, 1) := by decide +kernel
theorem dX2_isBusyOn_1 : decode cX2_isBusyOn 1 = .ok (.istore_n 3, 1) := by decide +kernel
theorem dX2_isBusyOn_2 : decode cX2_isBusyOn 2 = .ok (.iload_n 3, 1) := by decide +kernel
theorem dX2_isBusyOn_3 : decode cX2_isBusyOn 3 = .ok (.aload_n 0, 1) := by decide +kernel
theorem dX2_isBusyOn_4 : decode cX2_isBusyOn 4 = .ok (.getfield 43, 3) := by decide +kernel
theorem dX2_isBusyOn_7 : decode cX2_isBusyOn 7 = .ok (.if_icmp .ge 49, 3) := by decide +kernel
theorem dX2_isBusyOn_10 : decode cX2_isBusyOn 10 = .ok (.aload_n 0, 1) := by decide +kernel
theorem dX2_isBusyOn_11 : decode cX2_isBusyOn 11 = .ok (.getfield 24, 3) := by decide +kernel
theorem dX2_isBusyOn_14 : decode cX2_isBusyOn 14 = .ok (.iload_n 3, 1) := by decide +kernel
theorem dX2_isBusyOn_15 : decode cX2_isBusyOn 15 = .ok (.aaload, 1) := by decide +kernel
theorem dX2_isBusyOn_16 : decode cX2_isBusyOn 16 = .ok (.getfield 66, 3) := by decide +kernel
theorem dX2_isBusyOn_19 : decode cX2_isBusyOn 19 = .ok (.ifCond .ne 31, 3) := by decide +kernel
theorem dX2_isBusyOn_22 : decode cX2_isBusyOn 22 = .ok (.aload_n 0, 1) := by decide +kernel
theorem dX2_isBusyOn_23 : decode cX2_isBusyOn 23 = .ok (.getfield 24, 3) := by decide +kernel
theorem dX2_isBusyOn_26 : decode cX2_isBusyOn 26 = .ok (.iload_n 3, 1) := by decide +kernel
theorem dX2_isBusyOn_27 : decode cX2_isBusyOn 27 = .ok (.aaload, 1) := by decide +kernel
theorem dX2_isBusyOn_28 : decode cX2_isBusyOn 28 = .ok (.getfield 69, 3) := by decide +kernel
theorem dX2_isBusyOn_31 : decode cX2_isBusyOn 31 = .ok (.iload_n 1, 1) := by decide +kernel
theorem dX2_isBusyOn_32 : decode cX2_isBusyOn 32 = .ok (.if_icmp .ne 18, 3) := by decide +kernel
theorem dX2_isBusyOn_35 : decode cX2_isBusyOn 35 = .ok (.aload_n 0, 1) := by decide +kernel
theorem dX2_isBusyOn_36 : decode cX2_isBusyOn 36 = .ok (.getfield 24, 3) := by decide +kernel
theorem dX2_isBusyOn_39 : decode cX2_isBusyOn 39 = .ok (.iload_n 3, 1) := by decide +kernel
theorem dX2_isBusyOn_40 : decode cX2_isBusyOn 40 = .ok (.aaload, 1) := by decide +kernel
theorem dX2_isBusyOn_41 : decode cX2_isBusyOn 41 = .ok (.iload_n 2, 1) := by decide +kernel
theorem dX2_isBusyOn_42 : decode cX2_isBusyOn 42 = .ok (.invokevirtual 78, 3) := by decide +kernel
theorem dX2_isBusyOn_45 : decode cX2_isBusyOn 45 = .ok (.ifCond .eq 5, 3) := by decide +kernel
theorem dX2_isBusyOn_48 : decode cX2_isBusyOn 48 = .ok (.iconst 1, 1) := by decide +kernel
theorem dX2_isBusyOn_49 : decode cX2_isBusyOn 49 = .ok (.ireturn, 1) := by decide +kernel
theorem dX2_isBusyOn_50 : decode cX2_isBusyOn 50 = .ok (.iinc 3 1, 3) := by decide +kernel
theorem dX2_isBusyOn_53 : decode cX2_isBusyOn 53 = .ok (.goto (-51), 3) := by decide +kernel
theorem dX2_isBusyOn_56 : decode cX2_isBusyOn 56 = .ok (.iconst 0, 1) := by decide +kernel
theorem dX2_isBusyOn_57 : decode cX2_isBusyOn 57 = .ok (.ireturn, 1) := by decide +kernel
theorem dX2_ratioOf_0 : decode cX2_ratioOf 0 = .ok (.aload_n 2, 1) := by decide +kernel
theorem dX2_ratioOf_1 : decode cX2_ratioOf 1 = .ok (.getfield 81, 3) := by decide +kernel
theorem dX2_ratioOf_4 : decode cX2_ratioOf 4 = .ok (.aload_n 0, 1) := by decide +kernel
theorem dX2_ratioOf_5 : decode cX2_ratioOf 5 = .ok (.getfield 11, 3) := by decide +kernel
theorem dX2_ratioOf_8 : decode cX2_ratioOf 8 = .ok (.iload_n 1, 1) := by decide +kernel
theorem dX2_ratioOf_9 : decode cX2_ratioOf 9 = .ok (.aaload, 1) := by decide +kernel
theorem dX2_ratioOf_10 : decode cX2_ratioOf 10 = .ok (.getfield 84, 3) := by decide +kernel
theorem dX2_ratioOf_13 : decode cX2_ratioOf 13 = .ok (.iadd, 1) := by decide +kernel
theorem dX2_ratioOf_14 : decode cX2_ratioOf 14 = .ok (.iconst 2, 1) := by decide +kernel
theorem dX2_ratioOf_15 : decode cX2_ratioOf 15 = .ok (.isub, 1) := by decide +kernel
theorem dX2_ratioOf_16 : decode cX2_ratioOf 16 = .ok (.istore_n 3, 1) := by decide +kernel
theorem dX2_ratioOf_17 : decode cX2_ratioOf 17 = .ok (.iload_n 3, 1) := by decide +kernel
theorem dX2_ratioOf_18 : decode cX2_ratioOf 18 = .ok (.iconst 1, 1) := by decide +kernel
theorem dX2_ratioOf_19 : decode cX2_ratioOf 19 = .ok (.if_icmp .ge 7, 3) := by decide +kernel
theorem dX2_ratioOf_22 : decode cX2_ratioOf 22 = .ok (.iconst 1, 1) := by decide +kernel
theorem dX2_ratioOf_23 : decode cX2_ratioOf 23 = .ok (.goto 4, 3) := by decide +kernel
theorem dX2_ratioOf_26 : decode cX2_ratioOf 26 = .ok (.iload_n 3, 1) := by decide +kernel
theorem dX2_ratioOf_27 : decode cX2_ratioOf 27 = .ok (.ireturn, 1) := by decide +kernel
theorem dX2_leftAfter_0 : decode cX2_leftAfter 0 = .ok (.aload_n 1, 1) := by decide +kernel
theorem dX2_leftAfter_1 : decode cX2_leftAfter 1 = .ok (.getfield 87, 3) := by decide +kernel
theorem dX2_leftAfter_4 : decode cX2_leftAfter 4 = .ok (.istore_n 3, 1) := by decide +kernel
theorem dX2_leftAfter_5 : decode cX2_leftAfter 5 = .ok (.iconst 0, 1) := by decide +kernel
theorem dX2_leftAfter_6 : decode cX2_leftAfter 6 = .ok (.istore 4, 2) := by decide +kernel
theorem dX2_leftAfter_8 : decode cX2_leftAfter 8 = .ok (.iload 4, 2) := by decide +kernel
theorem dX2_leftAfter_10 : decode cX2_leftAfter 10 = .ok (.iload_n 2, 1) := by decide +kernel
theorem dX2_leftAfter_11 : decode cX2_leftAfter 11 = .ok (.if_icmp .ge 24, 3) := by decide +kernel
theorem dX2_leftAfter_14 : decode cX2_leftAfter 14 = .ok (.iload_n 3, 1) := by decide +kernel
theorem dX2_leftAfter_15 : decode cX2_leftAfter 15 = .ok (.aload_n 0, 1) := by decide +kernel
theorem dX2_leftAfter_16 : decode cX2_leftAfter 16 = .ok (.aload_n 1, 1) := by decide +kernel
theorem dX2_leftAfter_17 : decode cX2_leftAfter 17 = .ok (.getfield 90, 3) := by decide +kernel
theorem dX2_leftAfter_20 : decode cX2_leftAfter 20 = .ok (.iload 4, 2) := by decide +kernel
theorem dX2_leftAfter_22 : decode cX2_leftAfter 22 = .ok (.iaload, 1) := by decide +kernel
theorem dX2_leftAfter_23 : decode cX2_leftAfter 23 = .ok (.aload_n 1, 1) := by decide +kernel
theorem dX2_leftAfter_24 : decode cX2_leftAfter 24 = .ok (.invokevirtual 94, 3) := by decide +kernel
theorem dX2_leftAfter_27 : decode cX2_leftAfter 27 = .ok (.isub, 1) := by decide +kernel
theorem dX2_leftAfter_28 : decode cX2_leftAfter 28 = .ok (.istore_n 3, 1) := by decide +kernel
theorem dX2_leftAfter_29 : decode cX2_leftAfter 29 = .ok (.iinc 4 1, 3) := by decide +kernel
theorem dX2_leftAfter_32 : decode cX2_leftAfter 32 = .ok (.goto (-24), 3) := by decide +kernel
theorem dX2_leftAfter_35 : decode cX2_leftAfter 35 = .ok (.iload_n 3, 1) := by decide +kernel
theorem dX2_leftAfter_36 : decode cX2_leftAfter 36 = .ok (.ifCond .ge 7, 3) := by decide +kernel
theorem dX2_leftAfter_39 : decode cX2_leftAfter 39 = .ok (.iconst 0, 1) := by decide +kernel
theorem dX2_leftAfter_40 : decode cX2_leftAfter 40 = .ok (.goto 4, 3) := by decide +kernel
theorem dX2_leftAfter_43 : decode cX2_leftAfter 43 = .ok (.iload_n 3, 1) := by decide +kernel
theorem dX2_leftAfter_44 : decode cX2_leftAfter 44 = .ok (.ireturn, 1) := by decide +kernel
theorem dX2_guestsOnRope_0 : decode cX2_guestsOnRope 0 = .ok (.aload_n 0, 1) := by decide +kernel
theorem dX2_guestsOnRope_1 : decode cX2_guestsOnRope 1 = .ok (.aload_n 1, 1) := by decide +kernel
theorem dX2_guestsOnRope_2 : decode cX2_guestsOnRope 2 = .ok (.iload_n 2, 1) := by decide +kernel
theorem dX2_guestsOnRope_3 : decode cX2_guestsOnRope 3 = .ok (.invokevirtual 98, 3) := by decide +kernel
theorem dX2_guestsOnRope_6 : decode cX2_guestsOnRope 6 = .ok (.aload_n 0, 1) := by decide +kernel
theorem dX2_guestsOnRope_7 : decode cX2_guestsOnRope 7 = .ok (.aload_n 1, 1) := by decide +kernel
theorem dX2_guestsOnRope_8 : decode cX2_guestsOnRope 8 = .ok (.iload_n 2, 1) := by decide +kernel
theorem dX2_guestsOnRope_9 : decode cX2_guestsOnRope 9 = .ok (.iconst 1, 1) := by decide +kernel
theorem dX2_guestsOnRope_10 : decode cX2_guestsOnRope 10 = .ok (.iadd, 1) := by decide +kernel
theorem dX2_guestsOnRope_11 : decode cX2_guestsOnRope 11 = .ok (.invokevirtual 98, 3) := by decide +kernel
theorem dX2_guestsOnRope_14 : decode cX2_guestsOnRope 14 = .ok (.isub, 1) := by decide +kernel
theorem dX2_guestsOnRope_15 : decode cX2_guestsOnRope 15 = .ok (.ireturn, 1) := by decide +kernel
theorem dX2_firstOpenTourOf_0 : decode cX2_firstOpenTourOf 0 = .ok (.iconst 0, 1) := by decide +kernel
theorem dX2_firstOpenTourOf_1 : decode cX2_firstOpenTourOf 1 = .ok (.istore_n 2, 1) := by decide +kernel
theorem dX2_firstOpenTourOf_2 : decode cX2_firstOpenTourOf 2 = .ok (.iload_n 2, 1) := by decide +kernel
theorem dX2_firstOpenTourOf_3 : decode cX2_firstOpenTourOf 3 = .ok (.aload_n 0, 1) := by decide +kernel
theorem dX2_firstOpenTourOf_4 : decode cX2_firstOpenTourOf 4 = .ok (.getfield 43, 3) := by decide +kernel
theorem dX2_firstOpenTourOf_7 : decode cX2_firstOpenTourOf 7 = .ok (.if_icmp .ge 36, 3) := by decide +kernel
theorem dX2_firstOpenTourOf_10 : decode cX2_firstOpenTourOf 10 = .ok (.aload_n 0, 1) := by decide +kernel
theorem dX2_firstOpenTourOf_11 : decode cX2_firstOpenTourOf 11 = .ok (.getfield 24, 3) := by decide +kernel
theorem dX2_firstOpenTourOf_14 : decode cX2_firstOpenTourOf 14 = .ok (.iload_n 2, 1) := by decide +kernel
theorem dX2_firstOpenTourOf_15 : decode cX2_firstOpenTourOf 15 = .ok (.aaload, 1) := by decide +kernel
theorem dX2_firstOpenTourOf_16 : decode cX2_firstOpenTourOf 16 = .ok (.getfield 66, 3) := by decide +kernel
theorem dX2_firstOpenTourOf_19 : decode cX2_firstOpenTourOf 19 = .ok (.ifCond .ne 18, 3) := by decide +kernel
theorem dX2_firstOpenTourOf_22 : decode cX2_firstOpenTourOf 22 = .ok (.aload_n 0, 1) := by decide +kernel
theorem dX2_firstOpenTourOf_23 : decode cX2_firstOpenTourOf 23 = .ok (.getfield 24, 3) := by decide +kernel
theorem dX2_firstOpenTourOf_26 : decode cX2_firstOpenTourOf 26 = .ok (.iload_n 2, 1) := by decide +kernel
theorem dX2_firstOpenTourOf_27 : decode cX2_firstOpenTourOf 27 = .ok (.aaload, 1) := by decide +kernel
theorem dX2_firstOpenTourOf_28 : decode cX2_firstOpenTourOf 28 = .ok (.iload_n 1, 1) := by decide +kernel
theorem dX2_firstOpenTourOf_29 : decode cX2_firstOpenTourOf 29 = .ok (.invokevirtual 78, 3) := by decide +kernel
theorem dX2_firstOpenTourOf_32 : decode cX2_firstOpenTourOf 32 = .ok (.ifCond .eq 5, 3) := by decide +kernel
theorem dX2_firstOpenTourOf_35 : decode cX2_firstOpenTourOf 35 = .ok (.iload_n 2, 1) := by decide +kernel
theorem dX2_firstOpenTourOf_36 : decode cX2_firstOpenTourOf 36 = .ok (.ireturn, 1) := by decide +kernel
theorem dX2_firstOpenTourOf_37 : decode cX2_firstOpenTourOf 37 = .ok (.iinc 2 1, 3) := by decide +kernel
theorem dX2_firstOpenTourOf_40 : decode cX2_firstOpenTourOf 40 = .ok (.goto (-38), 3) := by decide +kernel
theorem dX2_firstOpenTourOf_43 : decode cX2_firstOpenTourOf 43 = .ok (.bipush (-5), 2) := by decide +kernel
theorem dX2_firstOpenTourOf_45 : decode cX2_firstOpenTourOf 45 = .ok (.ireturn, 1) := by decide +kernel
theorem dX2_neededBy_0 : decode cX2_neededBy 0 = .ok (.iconst 0, 1) := by decide +kernel
theorem dX2_neededBy_1 : decode cX2_neededBy 1 = .ok (.istore_n 2, 1) := by decide +kernel
theorem dX2_neededBy_2 : decode cX2_neededBy 2 = .ok (.aload_n 1, 1) := by decide +kernel
theorem dX2_neededBy_3 : decode cX2_neededBy 3 = .ok (.getfield 87, 3) := by decide +kernel
theorem dX2_neededBy_6 : decode cX2_neededBy 6 = .ok (.istore_n 3, 1) := by decide +kernel
theorem dX2_neededBy_7 : decode cX2_neededBy 7 = .ok (.iconst 0, 1) := by decide +kernel
theorem dX2_neededBy_8 : decode cX2_neededBy 8 = .ok (.istore 4, 2) := by decide +kernel
theorem dX2_neededBy_10 : decode cX2_neededBy 10 = .ok (.iload 4, 2) := by decide +kernel
theorem dX2_neededBy_12 : decode cX2_neededBy 12 = .ok (.aload_n 1, 1) := by decide +kernel
theorem dX2_neededBy_13 : decode cX2_neededBy 13 = .ok (.getfield 102, 3) := by decide +kernel
theorem dX2_neededBy_16 : decode cX2_neededBy 16 = .ok (.if_icmp .ge 40, 3) := by decide +kernel
theorem dX2_neededBy_19 : decode cX2_neededBy 19 = .ok (.aload_n 0, 1) := by decide +kernel
theorem dX2_neededBy_20 : decode cX2_neededBy 20 = .ok (.aload_n 1, 1) := by decide +kernel
theorem dX2_neededBy_21 : decode cX2_neededBy 21 = .ok (.iload 4, 2) := by decide +kernel
theorem dX2_neededBy_23 : decode cX2_neededBy 23 = .ok (.iconst 1, 1) := by decide +kernel
theorem dX2_neededBy_24 : decode cX2_neededBy 24 = .ok (.iadd, 1) := by decide +kernel
theorem dX2_neededBy_25 : decode cX2_neededBy 25 = .ok (.invokevirtual 98, 3) := by decide +kernel
theorem dX2_neededBy_28 : decode cX2_neededBy 28 = .ok (.istore 5, 2) := by decide +kernel
theorem dX2_neededBy_30 : decode cX2_neededBy 30 = .ok (.iload_n 3, 1) := by decide +kernel
theorem dX2_neededBy_31 : decode cX2_neededBy 31 = .ok (.iload 5, 2) := by decide +kernel
theorem dX2_neededBy_33 : decode cX2_neededBy 33 = .ok (.isub, 1) := by decide +kernel
theorem dX2_neededBy_34 : decode cX2_neededBy 34 = .ok (.iload_n 2, 1) := by decide +kernel
theorem dX2_neededBy_35 : decode cX2_neededBy 35 = .ok (.if_icmp .le 10, 3) := by decide +kernel
theorem dX2_neededBy_38 : decode cX2_neededBy 38 = .ok (.iload_n 3, 1) := by decide +kernel
theorem dX2_neededBy_39 : decode cX2_neededBy 39 = .ok (.iload 5, 2) := by decide +kernel
theorem dX2_neededBy_41 : decode cX2_neededBy 41 = .ok (.isub, 1) := by decide +kernel
theorem dX2_neededBy_42 : decode cX2_neededBy 42 = .ok (.goto 4, 3) := by decide +kernel
theorem dX2_neededBy_45 : decode cX2_neededBy 45 = .ok (.iload_n 2, 1) := by decide +kernel
theorem dX2_neededBy_46 : decode cX2_neededBy 46 = .ok (.istore_n 2, 1) := by decide +kernel
theorem dX2_neededBy_47 : decode cX2_neededBy 47 = .ok (.iload 5, 2) := by decide +kernel
theorem dX2_neededBy_49 : decode cX2_neededBy 49 = .ok (.istore_n 3, 1) := by decide +kernel
theorem dX2_neededBy_50 : decode cX2_neededBy 50 = .ok (.iinc 4 1, 3) := by decide +kernel
theorem dX2_neededBy_53 : decode cX2_neededBy 53 = .ok (.goto (-43), 3) := by decide +kernel
theorem dX2_neededBy_56 : decode cX2_neededBy 56 = .ok (.ldc2_w 104, 3) := by decide +kernel
theorem dX2_neededBy_59 : decode cX2_neededBy 59 = .ok (.ldc2_w 106, 3) := by decide +kernel
theorem dX2_neededBy_62 : decode cX2_neededBy 62 = .ok (.iload_n 2, 1) := by decide +kernel
theorem dX2_neededBy_63 : decode cX2_neededBy 63 = .ok (.iconst 1, 1) := by decide +kernel
theorem dX2_neededBy_64 : decode cX2_neededBy 64 = .ok (.iadd, 1) := by decide +kernel
theorem dX2_neededBy_65 : decode cX2_neededBy 65 = .ok (.i2d, 1) := by decide +kernel
theorem dX2_neededBy_66 : decode cX2_neededBy 66 = .ok (.dmul, 1) := by decide +kernel
theorem dX2_neededBy_67 : decode cX2_neededBy 67 = .ok (.dadd, 1) := by decide +kernel
theorem dX2_neededBy_68 : decode cX2_neededBy 68 = .ok (.dreturn, 1) := by decide +kernel
theorem dX2_allBridgesHold_0 : decode cX2_allBridgesHold 0 = .ok (.aload_n 0, 1) := by decide +kernel
theorem dX2_allBridgesHold_1 : decode cX2_allBridgesHold 1 = .ok (.aload_n 1, 1) := by decide +kernel
theorem dX2_allBridgesHold_2 : decode cX2_allBridgesHold 2 = .ok (.invokevirtual 108, 3) := by decide +kernel
theorem dX2_allBridgesHold_5 : decode cX2_allBridgesHold 5 = .ok (.dstore_n 2, 1) := by decide +kernel
theorem dX2_allBridgesHold_6 : decode cX2_allBridgesHold 6 = .ok (.iconst 0, 1) := by decide +kernel
theorem dX2_allBridgesHold_7 : decode cX2_allBridgesHold 7 = .ok (.istore 4, 2) := by decide +kernel
theorem dX2_allBridgesHold_9 : decode cX2_allBridgesHold 9 = .ok (.iload 4, 2) := by decide +kernel
theorem dX2_allBridgesHold_11 : decode cX2_allBridgesHold 11 = .ok (.aload_n 0, 1) := by decide +kernel
theorem dX2_allBridgesHold_12 : decode cX2_allBridgesHold 12 = .ok (.getfield 49, 3) := by decide +kernel
theorem dX2_allBridgesHold_15 : decode cX2_allBridgesHold 15 = .ok (.if_icmp .ge 35, 3) := by decide +kernel
theorem dX2_allBridgesHold_18 : decode cX2_allBridgesHold 18 = .ok (.aload_n 1, 1) := by decide +kernel
theorem dX2_allBridgesHold_19 : decode cX2_allBridgesHold 19 = .ok (.getfield 112, 3) := by decide +kernel
theorem dX2_allBridgesHold_22 : decode cX2_allBridgesHold 22 = .ok (.iload 4, 2) := by decide +kernel
theorem dX2_allBridgesHold_24 : decode cX2_allBridgesHold 24 = .ok (.ishr, 1) := by decide +kernel
theorem dX2_allBridgesHold_25 : decode cX2_allBridgesHold 25 = .ok (.iconst 1, 1) := by decide +kernel
theorem dX2_allBridgesHold_26 : decode cX2_allBridgesHold 26 = .ok (.iand, 1) := by decide +kernel
theorem dX2_allBridgesHold_27 : decode cX2_allBridgesHold 27 = .ok (.ifCond .eq 17, 3) := by decide +kernel
theorem dX2_allBridgesHold_30 : decode cX2_allBridgesHold 30 = .ok (.aload_n 0, 1) := by decide +kernel
theorem dX2_allBridgesHold_31 : decode cX2_allBridgesHold 31 = .ok (.getfield 18, 3) := by decide +kernel
theorem dX2_allBridgesHold_34 : decode cX2_allBridgesHold 34 = .ok (.iload 4, 2) := by decide +kernel
theorem dX2_allBridgesHold_36 : decode cX2_allBridgesHold 36 = .ok (.daload, 1) := by decide +kernel
theorem dX2_allBridgesHold_37 : decode cX2_allBridgesHold 37 = .ok (.dload_n 2, 1) := by decide +kernel
theorem dX2_allBridgesHold_38 : decode cX2_allBridgesHold 38 = .ok (.dcmp .l, 1) := by decide +kernel
theorem dX2_allBridgesHold_39 : decode cX2_allBridgesHold 39 = .ok (.ifCond .ge 5, 3) := by decide +kernel
theorem dX2_allBridgesHold_42 : decode cX2_allBridgesHold 42 = .ok (.iconst 0, 1) := by decide +kernel
theorem dX2_allBridgesHold_43 : decode cX2_allBridgesHold 43 = .ok (.ireturn, 1) := by decide +kernel
theorem dX2_allBridgesHold_44 : decode cX2_allBridgesHold 44 = .ok (.iinc 4 1, 3) := by decide +kernel
theorem dX2_allBridgesHold_47 : decode cX2_allBridgesHold 47 = .ok (.goto (-38), 3) := by decide +kernel
theorem dX2_allBridgesHold_50 : decode cX2_allBridgesHold 50 = .ok (.iconst 1, 1) := by decide +kernel
theorem dX2_allBridgesHold_51 : decode cX2_allBridgesHold 51 = .ok (.ireturn, 1) := by decide +kernel
theorem dX2_dayLater_0 : decode cX2_dayLater 0 = .ok (.aload_n 0, 1) := by decide +kernel
theorem dX2_dayLater_1 : decode cX2_dayLater 1 = .ok (.getfield 59, 3) := by decide +kernel
theorem dX2_dayLater_4 : decode cX2_dayLater 4 = .ok (.dconst 0, 1) := by decide +kernel
theorem dX2_dayLater_5 : decode cX2_dayLater 5 = .ok (.dcmp .l, 1) := by decide +kernel
theorem dX2_dayLater_6 : decode cX2_dayLater 6 = .ok (.ifCond .le 26, 3) := by decide +kernel
theorem dX2_dayLater_9 : decode cX2_dayLater 9 = .ok (.dload_n 1, 1) := by decide +kernel
theorem dX2_dayLater_10 : decode cX2_dayLater 10 = .ok (.ldc2_w 115, 3) := by decide +kernel
theorem dX2_dayLater_13 : decode cX2_dayLater 13 = .ok (.aload_n 0, 1) := by decide +kernel
theorem dX2_dayLater_14 : decode cX2_dayLater 14 = .ok (.getfield 59, 3) := by decide +kernel
theorem dX2_dayLater_17 : decode cX2_dayLater 17 = .ok (.dmul, 1) := by decide +kernel
theorem dX2_dayLater_18 : decode cX2_dayLater 18 = .ok (.dsub, 1) := by decide +kernel
theorem dX2_dayLater_19 : decode cX2_dayLater 19 = .ok (.dstore_n 3, 1) := by decide +kernel
theorem dX2_dayLater_20 : decode cX2_dayLater 20 = .ok (.dload_n 3, 1) := by decide +kernel
theorem dX2_dayLater_21 : decode cX2_dayLater 21 = .ok (.dconst 0, 1) := by decide +kernel
theorem dX2_dayLater_22 : decode cX2_dayLater 22 = .ok (.dcmp .g, 1) := by decide +kernel
theorem dX2_dayLater_23 : decode cX2_dayLater 23 = .ok (.ifCond .ge 7, 3) := by decide +kernel
theorem dX2_dayLater_26 : decode cX2_dayLater 26 = .ok (.dconst 0, 1) := by decide +kernel
theorem dX2_dayLater_27 : decode cX2_dayLater 27 = .ok (.goto 4, 3) := by decide +kernel
theorem dX2_dayLater_30 : decode cX2_dayLater 30 = .ok (.dload_n 3, 1) := by decide +kernel
theorem dX2_dayLater_31 : decode cX2_dayLater 31 = .ok (.dreturn, 1) := by decide +kernel
theorem dX2_dayLater_32 : decode cX2_dayLater 32 = .ok (.aload_n 0, 1) := by decide +kernel
theorem dX2_dayLater_33 : decode cX2_dayLater 33 = .ok (.getfield 59, 3) := by decide +kernel
theorem dX2_dayLater_36 : decode cX2_dayLater 36 = .ok (.dconst 0, 1) := by decide +kernel
theorem dX2_dayLater_37 : decode cX2_dayLater 37 = .ok (.dcmp .g, 1) := by decide +kernel
theorem dX2_dayLater_38 : decode cX2_dayLater 38 = .ok (.ifCond .ge 30, 3) := by decide +kernel
theorem dX2_dayLater_41 : decode cX2_dayLater 41 = .ok (.dload_n 1, 1) := by decide +kernel
theorem dX2_dayLater_42 : decode cX2_dayLater 42 = .ok (.ldc2_w 117, 3) := by decide +kernel
theorem dX2_dayLater_45 : decode cX2_dayLater 45 = .ok (.aload_n 0, 1) := by decide +kernel
theorem dX2_dayLater_46 : decode cX2_dayLater 46 = .ok (.getfield 59, 3) := by decide +kernel
theorem dX2_dayLater_49 : decode cX2_dayLater 49 = .ok (.dmul, 1) := by decide +kernel
theorem dX2_dayLater_50 : decode cX2_dayLater 50 = .ok (.dsub, 1) := by decide +kernel
theorem dX2_dayLater_51 : decode cX2_dayLater 51 = .ok (.dstore_n 3, 1) := by decide +kernel
theorem dX2_dayLater_52 : decode cX2_dayLater 52 = .ok (.dload_n 3, 1) := by decide +kernel
theorem dX2_dayLater_53 : decode cX2_dayLater 53 = .ok (.ldc2_w 119, 3) := by decide +kernel
theorem dX2_dayLater_56 : decode cX2_dayLater 56 = .ok (.dcmp .l, 1) := by decide +kernel
theorem dX2_dayLater_57 : decode cX2_dayLater 57 = .ok (.ifCond .le 9, 3) := by decide +kernel
theorem dX2_dayLater_60 : decode cX2_dayLater 60 = .ok (.ldc2_w 119, 3) := by decide +kernel
theorem dX2_dayLater_63 : decode cX2_dayLater 63 = .ok (.goto 4, 3) := by decide +kernel
theorem dX2_dayLater_66 : decode cX2_dayLater 66 = .ok (.dload_n 3, 1) := by decide +kernel
theorem dX2_dayLater_67 : decode cX2_dayLater 67 = .ok (.dreturn, 1) := by decide +kernel
theorem dX2_dayLater_68 : decode cX2_dayLater 68 = .ok (.dload_n 1, 1) := by decide +kernel
theorem dX2_dayLater_69 : decode cX2_dayLater 69 = .ok (.dreturn, 1) := by decide +kernel
theorem dX2_causeAgainst_0 : decode cX2_causeAgainst 0 = .ok (.aload_n 1, 1) := by decide +kernel
theorem dX2_causeAgainst_1 : decode cX2_causeAgainst 1 = .ok (.getfield 87, 3) := by decide +kernel
theorem dX2_causeAgainst_4 : decode cX2_causeAgainst 4 = .ok (.ifCond .ne 5, 3) := by decide +kernel
theorem dX2_causeAgainst_7 : decode cX2_causeAgainst 7 = .ok (.iconst 1, 1) := by decide +kernel
theorem dX2_causeAgainst_8 : decode cX2_causeAgainst 8 = .ok (.ireturn, 1) := by decide +kernel
theorem dX2_causeAgainst_9 : decode cX2_causeAgainst 9 = .ok (.aload_n 0, 1) := by decide +kernel
theorem dX2_causeAgainst_10 : decode cX2_causeAgainst 10 = .ok (.aload_n 1, 1) := by decide +kernel
theorem dX2_causeAgainst_11 : decode cX2_causeAgainst 11 = .ok (.invokevirtual 121, 3) := by decide +kernel
theorem dX2_causeAgainst_14 : decode cX2_causeAgainst 14 = .ok (.ifCond .ne 5, 3) := by decide +kernel
theorem dX2_causeAgainst_17 : decode cX2_causeAgainst 17 = .ok (.iconst 2, 1) := by decide +kernel
theorem dX2_causeAgainst_18 : decode cX2_causeAgainst 18 = .ok (.ireturn, 1) := by decide +kernel
theorem dX2_causeAgainst_19 : decode cX2_causeAgainst 19 = .ok (.aload_n 0, 1) := by decide +kernel
theorem dX2_causeAgainst_20 : decode cX2_causeAgainst 20 = .ok (.aload_n 1, 1) := by decide +kernel
theorem dX2_causeAgainst_21 : decode cX2_causeAgainst 21 = .ok (.aload_n 1, 1) := by decide +kernel
theorem dX2_causeAgainst_22 : decode cX2_causeAgainst 22 = .ok (.getfield 102, 3) := by decide +kernel
theorem dX2_causeAgainst_25 : decode cX2_causeAgainst 25 = .ok (.invokevirtual 98, 3) := by decide +kernel
theorem dX2_causeAgainst_28 : decode cX2_causeAgainst 28 = .ok (.ifCond .gt 11, 3) := by decide +kernel
theorem dX2_causeAgainst_31 : decode cX2_causeAgainst 31 = .ok (.aload_n 0, 1) := by decide +kernel
theorem dX2_causeAgainst_32 : decode cX2_causeAgainst 32 = .ok (.aload_n 1, 1) := by decide +kernel
theorem dX2_causeAgainst_33 : decode cX2_causeAgainst 33 = .ok (.invokevirtual 125, 3) := by decide +kernel
theorem dX2_causeAgainst_36 : decode cX2_causeAgainst 36 = .ok (.ifCond .ne 5, 3) := by decide +kernel
theorem dX2_causeAgainst_39 : decode cX2_causeAgainst 39 = .ok (.iconst 3, 1) := by decide +kernel
theorem dX2_causeAgainst_40 : decode cX2_causeAgainst 40 = .ok (.ireturn, 1) := by decide +kernel
theorem dX2_causeAgainst_41 : decode cX2_causeAgainst 41 = .ok (.iconst 0, 1) := by decide +kernel
theorem dX2_causeAgainst_42 : decode cX2_causeAgainst 42 = .ok (.ireturn, 1) := by decide +kernel
theorem dX2_allGuidesAreValid_0 : decode cX2_allGuidesAreValid 0 = .ok (.iconst 0, 1) := by decide +kernel
theorem dX2_allGuidesAreValid_1 : decode cX2_allGuidesAreValid 1 = .ok (.istore_n 2, 1) := by decide +kernel
theorem dX2_allGuidesAreValid_2 : decode cX2_allGuidesAreValid 2 = .ok (.iload_n 2, 1) := by decide +kernel
theorem dX2_allGuidesAreValid_3 : decode cX2_allGuidesAreValid 3 = .ok (.aload_n 1, 1) := by decide +kernel
theorem dX2_allGuidesAreValid_4 : decode cX2_allGuidesAreValid 4 = .ok (.getfield 102, 3) := by decide +kernel
theorem dX2_allGuidesAreValid_7 : decode cX2_allGuidesAreValid 7 = .ok (.if_icmp .ge 32, 3) := by decide +kernel
theorem dX2_allGuidesAreValid_10 : decode cX2_allGuidesAreValid 10 = .ok (.aload_n 0, 1) := by decide +kernel
theorem dX2_allGuidesAreValid_11 : decode cX2_allGuidesAreValid 11 = .ok (.getfield 11, 3) := by decide +kernel
theorem dX2_allGuidesAreValid_14 : decode cX2_allGuidesAreValid 14 = .ok (.aload_n 1, 1) := by decide +kernel
theorem dX2_allGuidesAreValid_15 : decode cX2_allGuidesAreValid 15 = .ok (.getfield 90, 3) := by decide +kernel
theorem dX2_allGuidesAreValid_18 : decode cX2_allGuidesAreValid 18 = .ok (.iload_n 2, 1) := by decide +kernel
theorem dX2_allGuidesAreValid_19 : decode cX2_allGuidesAreValid 19 = .ok (.iaload, 1) := by decide +kernel
theorem dX2_allGuidesAreValid_20 : decode cX2_allGuidesAreValid 20 = .ok (.aaload, 1) := by decide +kernel
theorem dX2_allGuidesAreValid_21 : decode cX2_allGuidesAreValid 21 = .ok (.aload_n 1, 1) := by decide +kernel
theorem dX2_allGuidesAreValid_22 : decode cX2_allGuidesAreValid 22 = .ok (.getfield 69, 3) := by decide +kernel
theorem dX2_allGuidesAreValid_25 : decode cX2_allGuidesAreValid 25 = .ok (.invokevirtual 70, 3) := by decide +kernel
theorem dX2_allGuidesAreValid_28 : decode cX2_allGuidesAreValid 28 = .ok (.ifCond .ne 5, 3) := by decide +kernel
theorem dX2_allGuidesAreValid_31 : decode cX2_allGuidesAreValid 31 = .ok (.iconst 0, 1) := by decide +kernel
theorem dX2_allGuidesAreValid_32 : decode cX2_allGuidesAreValid 32 = .ok (.ireturn, 1) := by decide +kernel
theorem dX2_allGuidesAreValid_33 : decode cX2_allGuidesAreValid 33 = .ok (.iinc 2 1, 3) := by decide +kernel
theorem dX2_allGuidesAreValid_36 : decode cX2_allGuidesAreValid 36 = .ok (.goto (-34), 3) := by decide +kernel
theorem dX2_allGuidesAreValid_39 : decode cX2_allGuidesAreValid 39 = .ok (.iconst 1, 1) := by decide +kernel
theorem dX2_allGuidesAreValid_40 : decode cX2_allGuidesAreValid 40 = .ok (.ireturn, 1) := by decide +kernel
theorem dX2_passDay_0 : decode cX2_passDay 0 = .ok (.iconst 0, 1) := by decide +kernel
theorem dX2_passDay_1 : decode cX2_passDay 1 = .ok (.istore_n 1, 1) := by decide +kernel
theorem dX2_passDay_2 : decode cX2_passDay 2 = .ok (.iconst 0, 1) := by decide +kernel
theorem dX2_passDay_3 : decode cX2_passDay 3 = .ok (.istore_n 2, 1) := by decide +kernel
theorem dX2_passDay_4 : decode cX2_passDay 4 = .ok (.iload_n 2, 1) := by decide +kernel
theorem dX2_passDay_5 : decode cX2_passDay 5 = .ok (.aload_n 0, 1) := by decide +kernel
theorem dX2_passDay_6 : decode cX2_passDay 6 = .ok (.getfield 43, 3) := by decide +kernel
theorem dX2_passDay_9 : decode cX2_passDay 9 = .ok (.if_icmp .ge 65, 3) := by decide +kernel
theorem dX2_passDay_12 : decode cX2_passDay 12 = .ok (.aload_n 0, 1) := by decide +kernel
theorem dX2_passDay_13 : decode cX2_passDay 13 = .ok (.getfield 24, 3) := by decide +kernel
theorem dX2_passDay_16 : decode cX2_passDay 16 = .ok (.iload_n 2, 1) := by decide +kernel
theorem dX2_passDay_17 : decode cX2_passDay 17 = .ok (.aaload, 1) := by decide +kernel
theorem dX2_passDay_18 : decode cX2_passDay 18 = .ok (.astore_n 3, 1) := by decide +kernel
theorem dX2_passDay_19 : decode cX2_passDay 19 = .ok (.aload_n 3, 1) := by decide +kernel
theorem dX2_passDay_20 : decode cX2_passDay 20 = .ok (.getfield 66, 3) := by decide +kernel
theorem dX2_passDay_23 : decode cX2_passDay 23 = .ok (.ifCond .ne 45, 3) := by decide +kernel
theorem dX2_passDay_26 : decode cX2_passDay 26 = .ok (.aload_n 3, 1) := by decide +kernel
theorem dX2_passDay_27 : decode cX2_passDay 27 = .ok (.getfield 69, 3) := by decide +kernel
theorem dX2_passDay_30 : decode cX2_passDay 30 = .ok (.aload_n 0, 1) := by decide +kernel
theorem dX2_passDay_31 : decode cX2_passDay 31 = .ok (.getfield 52, 3) := by decide +kernel
theorem dX2_passDay_34 : decode cX2_passDay 34 = .ok (.if_icmp .ne 34, 3) := by decide +kernel
theorem dX2_passDay_37 : decode cX2_passDay 37 = .ok (.aload_n 0, 1) := by decide +kernel
theorem dX2_passDay_38 : decode cX2_passDay 38 = .ok (.aload_n 3, 1) := by decide +kernel
theorem dX2_passDay_39 : decode cX2_passDay 39 = .ok (.invokevirtual 128, 3) := by decide +kernel
theorem dX2_passDay_42 : decode cX2_passDay 42 = .ok (.istore 4, 2) := by decide +kernel
theorem dX2_passDay_44 : decode cX2_passDay 44 = .ok (.iload 4, 2) := by decide +kernel
theorem dX2_passDay_46 : decode cX2_passDay 46 = .ok (.ifCond .ne 14, 3) := by decide +kernel
theorem dX2_passDay_49 : decode cX2_passDay 49 = .ok (.aload_n 0, 1) := by decide +kernel
theorem dX2_passDay_50 : decode cX2_passDay 50 = .ok (.aload_n 3, 1) := by decide +kernel
theorem dX2_passDay_51 : decode cX2_passDay 51 = .ok (.invokevirtual 132, 3) := by decide +kernel
theorem dX2_passDay_54 : decode cX2_passDay 54 = .ok (.iinc 1 1, 3) := by decide +kernel
theorem dX2_passDay_57 : decode cX2_passDay 57 = .ok (.goto 11, 3) := by decide +kernel
theorem dX2_passDay_60 : decode cX2_passDay 60 = .ok (.aload_n 0, 1) := by decide +kernel
theorem dX2_passDay_61 : decode cX2_passDay 61 = .ok (.aload_n 3, 1) := by decide +kernel
theorem dX2_passDay_62 : decode cX2_passDay 62 = .ok (.iload 4, 2) := by decide +kernel
theorem dX2_passDay_64 : decode cX2_passDay 64 = .ok (.invokevirtual 135, 3) := by decide +kernel
theorem dX2_passDay_67 : decode cX2_passDay 67 = .ok (.pop, 1) := by decide +kernel
theorem dX2_passDay_68 : decode cX2_passDay 68 = .ok (.iinc 2 1, 3) := by decide +kernel
theorem dX2_passDay_71 : decode cX2_passDay 71 = .ok (.goto (-67), 3) := by decide +kernel
theorem dX2_passDay_74 : decode cX2_passDay 74 = .ok (.iconst 0, 1) := by decide +kernel
theorem dX2_passDay_75 : decode cX2_passDay 75 = .ok (.istore_n 2, 1) := by decide +kernel
theorem dX2_passDay_76 : decode cX2_passDay 76 = .ok (.iload_n 2, 1) := by decide +kernel
theorem dX2_passDay_77 : decode cX2_passDay 77 = .ok (.aload_n 0, 1) := by decide +kernel
theorem dX2_passDay_78 : decode cX2_passDay 78 = .ok (.getfield 49, 3) := by decide +kernel
theorem dX2_passDay_81 : decode cX2_passDay 81 = .ok (.if_icmp .ge 25, 3) := by decide +kernel
theorem dX2_passDay_84 : decode cX2_passDay 84 = .ok (.aload_n 0, 1) := by decide +kernel
theorem dX2_passDay_85 : decode cX2_passDay 85 = .ok (.getfield 18, 3) := by decide +kernel
theorem dX2_passDay_88 : decode cX2_passDay 88 = .ok (.iload_n 2, 1) := by decide +kernel
theorem dX2_passDay_89 : decode cX2_passDay 89 = .ok (.aload_n 0, 1) := by decide +kernel
theorem dX2_passDay_90 : decode cX2_passDay 90 = .ok (.aload_n 0, 1) := by decide +kernel
theorem dX2_passDay_91 : decode cX2_passDay 91 = .ok (.getfield 18, 3) := by decide +kernel
theorem dX2_passDay_94 : decode cX2_passDay 94 = .ok (.iload_n 2, 1) := by decide +kernel
theorem dX2_passDay_95 : decode cX2_passDay 95 = .ok (.daload, 1) := by decide +kernel
theorem dX2_passDay_96 : decode cX2_passDay 96 = .ok (.invokevirtual 138, 3) := by decide +kernel
theorem dX2_passDay_99 : decode cX2_passDay 99 = .ok (.dastore, 1) := by decide +kernel
theorem dX2_passDay_100 : decode cX2_passDay 100 = .ok (.iinc 2 1, 3) := by decide +kernel
theorem dX2_passDay_103 : decode cX2_passDay 103 = .ok (.goto (-27), 3) := by decide +kernel
theorem dX2_passDay_106 : decode cX2_passDay 106 = .ok (.aload_n 0, 1) := by decide +kernel
theorem dX2_passDay_107 : decode cX2_passDay 107 = .ok (.dup, 1) := by decide +kernel
theorem dX2_passDay_108 : decode cX2_passDay 108 = .ok (.getfield 52, 3) := by decide +kernel
theorem dX2_passDay_111 : decode cX2_passDay 111 = .ok (.iconst 1, 1) := by decide +kernel
theorem dX2_passDay_112 : decode cX2_passDay 112 = .ok (.iadd, 1) := by decide +kernel
theorem dX2_passDay_113 : decode cX2_passDay 113 = .ok (.putfield 52, 3) := by decide +kernel
theorem dX2_passDay_116 : decode cX2_passDay 116 = .ok (.iload_n 1, 1) := by decide +kernel
theorem dX2_passDay_117 : decode cX2_passDay 117 = .ok (.ireturn, 1) := by decide +kernel
theorem dX2_letGo_0 : decode cX2_letGo 0 = .ok (.aload_n 1, 1) := by decide +kernel
theorem dX2_letGo_1 : decode cX2_letGo 1 = .ok (.iconst 1, 1) := by decide +kernel
theorem dX2_letGo_2 : decode cX2_letGo 2 = .ok (.putfield 66, 3) := by decide +kernel
theorem dX2_letGo_5 : decode cX2_letGo 5 = .ok (.iconst 0, 1) := by decide +kernel
theorem dX2_letGo_6 : decode cX2_letGo 6 = .ok (.istore_n 2, 1) := by decide +kernel
theorem dX2_letGo_7 : decode cX2_letGo 7 = .ok (.iload_n 2, 1) := by decide +kernel
theorem dX2_letGo_8 : decode cX2_letGo 8 = .ok (.aload_n 1, 1) := by decide +kernel
theorem dX2_letGo_9 : decode cX2_letGo 9 = .ok (.getfield 102, 3) := by decide +kernel
theorem dX2_letGo_12 : decode cX2_letGo 12 = .ok (.if_icmp .ge 29, 3) := by decide +kernel
theorem dX2_letGo_15 : decode cX2_letGo 15 = .ok (.aload_n 0, 1) := by decide +kernel
theorem dX2_letGo_16 : decode cX2_letGo 16 = .ok (.getfield 11, 3) := by decide +kernel
theorem dX2_letGo_19 : decode cX2_letGo 19 = .ok (.aload_n 1, 1) := by decide +kernel
theorem dX2_letGo_20 : decode cX2_letGo 20 = .ok (.getfield 90, 3) := by decide +kernel
theorem dX2_letGo_23 : decode cX2_letGo 23 = .ok (.iload_n 2, 1) := by decide +kernel
theorem dX2_letGo_24 : decode cX2_letGo 24 = .ok (.iaload, 1) := by decide +kernel
theorem dX2_letGo_25 : decode cX2_letGo 25 = .ok (.aaload, 1) := by decide +kernel
theorem dX2_letGo_26 : decode cX2_letGo 26 = .ok (.aload_n 0, 1) := by decide +kernel
theorem dX2_letGo_27 : decode cX2_letGo 27 = .ok (.aload_n 1, 1) := by decide +kernel
theorem dX2_letGo_28 : decode cX2_letGo 28 = .ok (.iload_n 2, 1) := by decide +kernel
theorem dX2_letGo_29 : decode cX2_letGo 29 = .ok (.invokevirtual 142, 3) := by decide +kernel
theorem dX2_letGo_32 : decode cX2_letGo 32 = .ok (.invokevirtual 145, 3) := by decide +kernel
theorem dX2_letGo_35 : decode cX2_letGo 35 = .ok (.iinc 2 1, 3) := by decide +kernel
theorem dX2_letGo_38 : decode cX2_letGo 38 = .ok (.goto (-31), 3) := by decide +kernel
theorem dX2_letGo_41 : decode cX2_letGo 41 = .ok (.return_, 1) := by decide +kernel
theorem dX2_callOff_0 : decode cX2_callOff 0 = .ok (.aload_n 1, 1) := by decide +kernel
theorem dX2_callOff_1 : decode cX2_callOff 1 = .ok (.getfield 149, 3) := by decide +kernel
theorem dX2_callOff_4 : decode cX2_callOff 4 = .ok (.istore_n 3, 1) := by decide +kernel
theorem dX2_callOff_5 : decode cX2_callOff 5 = .ok (.aload_n 1, 1) := by decide +kernel
theorem dX2_callOff_6 : decode cX2_callOff 6 = .ok (.iconst 2, 1) := by decide +kernel
theorem dX2_callOff_7 : decode cX2_callOff 7 = .ok (.putfield 66, 3) := by decide +kernel
theorem dX2_callOff_10 : decode cX2_callOff 10 = .ok (.aload_n 1, 1) := by decide +kernel
theorem dX2_callOff_11 : decode cX2_callOff 11 = .ok (.iload_n 2, 1) := by decide +kernel
theorem dX2_callOff_12 : decode cX2_callOff 12 = .ok (.putfield 152, 3) := by decide +kernel
theorem dX2_callOff_15 : decode cX2_callOff 15 = .ok (.aload_n 0, 1) := by decide +kernel
theorem dX2_callOff_16 : decode cX2_callOff 16 = .ok (.aload_n 1, 1) := by decide +kernel
theorem dX2_callOff_17 : decode cX2_callOff 17 = .ok (.iload_n 3, 1) := by decide +kernel
theorem dX2_callOff_18 : decode cX2_callOff 18 = .ok (.invokevirtual 155, 3) := by decide +kernel
theorem dX2_callOff_21 : decode cX2_callOff 21 = .ok (.iload_n 3, 1) := by decide +kernel
theorem dX2_callOff_22 : decode cX2_callOff 22 = .ok (.ireturn, 1) := by decide +kernel
theorem dX2_payBack_0 : decode cX2_payBack 0 = .ok (.aload_n 1, 1) := by decide +kernel
theorem dX2_payBack_1 : decode cX2_payBack 1 = .ok (.dup, 1) := by decide +kernel
theorem dX2_payBack_2 : decode cX2_payBack 2 = .ok (.getfield 149, 3) := by decide +kernel
theorem dX2_payBack_5 : decode cX2_payBack 5 = .ok (.iload_n 2, 1) := by decide +kernel
theorem dX2_payBack_6 : decode cX2_payBack 6 = .ok (.isub, 1) := by decide +kernel
theorem dX2_payBack_7 : decode cX2_payBack 7 = .ok (.putfield 149, 3) := by decide +kernel
theorem dX2_payBack_10 : decode cX2_payBack 10 = .ok (.aload_n 0, 1) := by decide +kernel
theorem dX2_payBack_11 : decode cX2_payBack 11 = .ok (.dup, 1) := by decide +kernel
theorem dX2_payBack_12 : decode cX2_payBack 12 = .ok (.getfield 63, 3) := by decide +kernel
theorem dX2_payBack_15 : decode cX2_payBack 15 = .ok (.iload_n 2, 1) := by decide +kernel
theorem dX2_payBack_16 : decode cX2_payBack 16 = .ok (.iadd, 1) := by decide +kernel
theorem dX2_payBack_17 : decode cX2_payBack 17 = .ok (.putfield 63, 3) := by decide +kernel
theorem dX2_payBack_20 : decode cX2_payBack 20 = .ok (.return_, 1) := by decide +kernel
theorem dX2_toursThatAre_0 : decode cX2_toursThatAre 0 = .ok (.iconst 0, 1) := by decide +kernel
theorem dX2_toursThatAre_1 : decode cX2_toursThatAre 1 = .ok (.istore_n 2, 1) := by decide +kernel
theorem dX2_toursThatAre_2 : decode cX2_toursThatAre 2 = .ok (.iconst 0, 1) := by decide +kernel
theorem dX2_toursThatAre_3 : decode cX2_toursThatAre 3 = .ok (.istore_n 3, 1) := by decide +kernel
theorem dX2_toursThatAre_4 : decode cX2_toursThatAre 4 = .ok (.iload_n 3, 1) := by decide +kernel
theorem dX2_toursThatAre_5 : decode cX2_toursThatAre 5 = .ok (.aload_n 0, 1) := by decide +kernel
theorem dX2_toursThatAre_6 : decode cX2_toursThatAre 6 = .ok (.getfield 43, 3) := by decide +kernel
theorem dX2_toursThatAre_9 : decode cX2_toursThatAre 9 = .ok (.if_icmp .ge 25, 3) := by decide +kernel
theorem dX2_toursThatAre_12 : decode cX2_toursThatAre 12 = .ok (.aload_n 0, 1) := by decide +kernel
theorem dX2_toursThatAre_13 : decode cX2_toursThatAre 13 = .ok (.getfield 24, 3) := by decide +kernel
theorem dX2_toursThatAre_16 : decode cX2_toursThatAre 16 = .ok (.iload_n 3, 1) := by decide +kernel
theorem dX2_toursThatAre_17 : decode cX2_toursThatAre 17 = .ok (.aaload, 1) := by decide +kernel
theorem dX2_toursThatAre_18 : decode cX2_toursThatAre 18 = .ok (.getfield 66, 3) := by decide +kernel
theorem dX2_toursThatAre_21 : decode cX2_toursThatAre 21 = .ok (.iload_n 1, 1) := by decide +kernel
theorem dX2_toursThatAre_22 : decode cX2_toursThatAre 22 = .ok (.if_icmp .ne 6, 3) := by decide +kernel
theorem dX2_toursThatAre_25 : decode cX2_toursThatAre 25 = .ok (.iinc 2 1, 3) := by decide +kernel
theorem dX2_toursThatAre_28 : decode cX2_toursThatAre 28 = .ok (.iinc 3 1, 3) := by decide +kernel
theorem dX2_toursThatAre_31 : decode cX2_toursThatAre 31 = .ok (.goto (-27), 3) := by decide +kernel
theorem dX2_toursThatAre_34 : decode cX2_toursThatAre 34 = .ok (.iload_n 2, 1) := by decide +kernel
theorem dX2_toursThatAre_35 : decode cX2_toursThatAre 35 = .ok (.ireturn, 1) := by decide +kernel
theorem dX2_allPaid_0 : decode cX2_allPaid 0 = .ok (.iconst 0, 1) := by decide +kernel
theorem dX2_allPaid_1 : decode cX2_allPaid 1 = .ok (.istore_n 1, 1) := by decide +kernel
theorem dX2_allPaid_2 : decode cX2_allPaid 2 = .ok (.iconst 0, 1) := by decide +kernel
theorem dX2_allPaid_3 : decode cX2_allPaid 3 = .ok (.istore_n 2, 1) := by decide +kernel
theorem dX2_allPaid_4 : decode cX2_allPaid 4 = .ok (.iload_n 2, 1) := by decide +kernel
theorem dX2_allPaid_5 : decode cX2_allPaid 5 = .ok (.aload_n 0, 1) := by decide +kernel
theorem dX2_allPaid_6 : decode cX2_allPaid 6 = .ok (.getfield 43, 3) := by decide +kernel
theorem dX2_allPaid_9 : decode cX2_allPaid 9 = .ok (.if_icmp .ge 21, 3) := by decide +kernel
theorem dX2_allPaid_12 : decode cX2_allPaid 12 = .ok (.iload_n 1, 1) := by decide +kernel
theorem dX2_allPaid_13 : decode cX2_allPaid 13 = .ok (.aload_n 0, 1) := by decide +kernel
theorem dX2_allPaid_14 : decode cX2_allPaid 14 = .ok (.getfield 24, 3) := by decide +kernel
theorem dX2_allPaid_17 : decode cX2_allPaid 17 = .ok (.iload_n 2, 1) := by decide +kernel
theorem dX2_allPaid_18 : decode cX2_allPaid 18 = .ok (.aaload, 1) := by decide +kernel
theorem dX2_allPaid_19 : decode cX2_allPaid 19 = .ok (.getfield 149, 3) := by decide +kernel
theorem dX2_allPaid_22 : decode cX2_allPaid 22 = .ok (.iadd, 1) := by decide +kernel
theorem dX2_allPaid_23 : decode cX2_allPaid 23 = .ok (.istore_n 1, 1) := by decide +kernel
theorem dX2_allPaid_24 : decode cX2_allPaid 24 = .ok (.iinc 2 1, 3) := by decide +kernel
theorem dX2_allPaid_27 : decode cX2_allPaid 27 = .ok (.goto (-23), 3) := by decide +kernel
theorem dX2_allPaid_30 : decode cX2_allPaid 30 = .ok (.iload_n 1, 1) := by decide +kernel
theorem dX2_allPaid_31 : decode cX2_allPaid 31 = .ok (.ireturn, 1) := by decide +kernel
theorem dX2_guestsGone_0 : decode cX2_guestsGone 0 = .ok (.iconst 0, 1) := by decide +kernel
theorem dX2_guestsGone_1 : decode cX2_guestsGone 1 = .ok (.istore_n 1, 1) := by decide +kernel
theorem dX2_guestsGone_2 : decode cX2_guestsGone 2 = .ok (.iconst 0, 1) := by decide +kernel
theorem dX2_guestsGone_3 : decode cX2_guestsGone 3 = .ok (.istore_n 2, 1) := by decide +kernel
theorem dX2_guestsGone_4 : decode cX2_guestsGone 4 = .ok (.iload_n 2, 1) := by decide +kernel
theorem dX2_guestsGone_5 : decode cX2_guestsGone 5 = .ok (.aload_n 0, 1) := by decide +kernel
theorem dX2_guestsGone_6 : decode cX2_guestsGone 6 = .ok (.getfield 43, 3) := by decide +kernel
theorem dX2_guestsGone_9 : decode cX2_guestsGone 9 = .ok (.if_icmp .ge 34, 3) := by decide +kernel
theorem dX2_guestsGone_12 : decode cX2_guestsGone 12 = .ok (.aload_n 0, 1) := by decide +kernel
theorem dX2_guestsGone_13 : decode cX2_guestsGone 13 = .ok (.getfield 24, 3) := by decide +kernel
theorem dX2_guestsGone_16 : decode cX2_guestsGone 16 = .ok (.iload_n 2, 1) := by decide +kernel
theorem dX2_guestsGone_17 : decode cX2_guestsGone 17 = .ok (.aaload, 1) := by decide +kernel
theorem dX2_guestsGone_18 : decode cX2_guestsGone 18 = .ok (.getfield 66, 3) := by decide +kernel
theorem dX2_guestsGone_21 : decode cX2_guestsGone 21 = .ok (.iconst 1, 1) := by decide +kernel
theorem dX2_guestsGone_22 : decode cX2_guestsGone 22 = .ok (.if_icmp .ne 15, 3) := by decide +kernel
theorem dX2_guestsGone_25 : decode cX2_guestsGone 25 = .ok (.iload_n 1, 1) := by decide +kernel
theorem dX2_guestsGone_26 : decode cX2_guestsGone 26 = .ok (.aload_n 0, 1) := by decide +kernel
theorem dX2_guestsGone_27 : decode cX2_guestsGone 27 = .ok (.getfield 24, 3) := by decide +kernel
theorem dX2_guestsGone_30 : decode cX2_guestsGone 30 = .ok (.iload_n 2, 1) := by decide +kernel
theorem dX2_guestsGone_31 : decode cX2_guestsGone 31 = .ok (.aaload, 1) := by decide +kernel
theorem dX2_guestsGone_32 : decode cX2_guestsGone 32 = .ok (.getfield 87, 3) := by decide +kernel
theorem dX2_guestsGone_35 : decode cX2_guestsGone 35 = .ok (.iadd, 1) := by decide +kernel
theorem dX2_guestsGone_36 : decode cX2_guestsGone 36 = .ok (.istore_n 1, 1) := by decide +kernel
theorem dX2_guestsGone_37 : decode cX2_guestsGone 37 = .ok (.iinc 2 1, 3) := by decide +kernel
theorem dX2_guestsGone_40 : decode cX2_guestsGone 40 = .ok (.goto (-36), 3) := by decide +kernel
theorem dX2_guestsGone_43 : decode cX2_guestsGone 43 = .ok (.iload_n 1, 1) := by decide +kernel
theorem dX2_guestsGone_44 : decode cX2_guestsGone 44 = .ok (.ireturn, 1) := by decide +kernel
theorem dX3_init_0 : decode cX3_init 0 = .ok (.aload_n 0, 1) := by decide +kernel
theorem dX3_init_1 : decode cX3_init 1 = .ok (.invokespecial 3, 3) := by decide +kernel
theorem dX3_init_4 : decode cX3_init 4 = .ok (.aload_n 0, 1) := by decide +kernel
theorem dX3_init_5 : decode cX3_init 5 = .ok (.bipush 40, 2) := by decide +kernel
theorem dX3_init_7 : decode cX3_init 7 = .ok (.newarray .char, 2) := by decide +kernel
theorem dX3_init_9 : decode cX3_init 9 = .ok (.putfield 9, 3) := by decide +kernel
theorem dX3_init_12 : decode cX3_init 12 = .ok (.return_, 1) := by decide +kernel
theorem dX3_append_0 : decode cX3_append 0 = .ok (.aload_n 0, 1) := by decide +kernel
theorem dX3_append_1 : decode cX3_append 1 = .ok (.getfield 15, 3) := by decide +kernel
theorem dX3_append_4 : decode cX3_append 4 = .ok (.bipush 40, 2) := by decide +kernel
theorem dX3_append_6 : decode cX3_append 6 = .ok (.if_icmp .ge 23, 3) := by decide +kernel
theorem dX3_append_9 : decode cX3_append 9 = .ok (.aload_n 0, 1) := by decide +kernel
theorem dX3_append_10 : decode cX3_append 10 = .ok (.getfield 9, 3) := by decide +kernel
theorem dX3_append_13 : decode cX3_append 13 = .ok (.aload_n 0, 1) := by decide +kernel
theorem dX3_append_14 : decode cX3_append 14 = .ok (.getfield 15, 3) := by decide +kernel
theorem dX3_append_17 : decode cX3_append 17 = .ok (.iload_n 1, 1) := by decide +kernel
theorem dX3_append_18 : decode cX3_append 18 = .ok (.castore, 1) := by decide +kernel
theorem dX3_append_19 : decode cX3_append 19 = .ok (.aload_n 0, 1) := by decide +kernel
theorem dX3_append_20 : decode cX3_append 20 = .ok (.dup, 1) := by decide +kernel
theorem dX3_append_21 : decode cX3_append 21 = .ok (.getfield 15, 3) := by decide +kernel
theorem dX3_append_24 : decode cX3_append 24 = .ok (.iconst 1, 1) := by decide +kernel
theorem dX3_append_25 : decode cX3_append 25 = .ok (.iadd, 1) := by decide +kernel
theorem dX3_append_26 : decode cX3_append 26 = .ok (.putfield 15, 3) := by decide +kernel
theorem dX3_append_29 : decode cX3_append 29 = .ok (.return_, 1) := by decide +kernel
theorem dX3_read_0 : decode cX3_read 0 = .ok (.aload_n 0, 1) := by decide +kernel
theorem dX3_read_1 : decode cX3_read 1 = .ok (.invokevirtual 19, 3) := by decide +kernel
theorem dX3_read_4 : decode cX3_read 4 = .ok (.istore_n 1, 1) := by decide +kernel
theorem dX3_read_5 : decode cX3_read 5 = .ok (.aload_n 0, 1) := by decide +kernel
theorem dX3_read_6 : decode cX3_read 6 = .ok (.aload_n 0, 1) := by decide +kernel
theorem dX3_read_7 : decode cX3_read 7 = .ok (.iload_n 1, 1) := by decide +kernel
theorem dX3_read_8 : decode cX3_read 8 = .ok (.invokevirtual 23, 3) := by decide +kernel
theorem dX3_read_11 : decode cX3_read 11 = .ok (.putfield 27, 3) := by decide +kernel
theorem dX3_read_14 : decode cX3_read 14 = .ok (.aload_n 0, 1) := by decide +kernel
theorem dX3_read_15 : decode cX3_read 15 = .ok (.getfield 27, 3) := by decide +kernel
theorem dX3_read_18 : decode cX3_read 18 = .ok (.ifCond .ne 5, 3) := by decide +kernel
theorem dX3_read_21 : decode cX3_read 21 = .ok (.iconst 0, 1) := by decide +kernel
theorem dX3_read_22 : decode cX3_read 22 = .ok (.ireturn, 1) := by decide +kernel
theorem dX3_read_23 : decode cX3_read 23 = .ok (.aload_n 0, 1) := by decide +kernel
theorem dX3_read_24 : decode cX3_read 24 = .ok (.getfield 27, 3) := by decide +kernel
theorem dX3_read_27 : decode cX3_read 27 = .ok (.iconst 4, 1) := by decide +kernel
theorem dX3_read_28 : decode cX3_read 28 = .ok (.if_icmp .ne 7, 3) := by decide +kernel
theorem dX3_read_31 : decode cX3_read 31 = .ok (.iconst 1, 1) := by decide +kernel
theorem dX3_read_32 : decode cX3_read 32 = .ok (.goto 4, 3) := by decide +kernel
theorem dX3_read_35 : decode cX3_read 35 = .ok (.iconst 2, 1) := by decide +kernel
theorem dX3_read_36 : decode cX3_read 36 = .ok (.istore_n 2, 1) := by decide +kernel
theorem dX3_read_37 : decode cX3_read 37 = .ok (.iconst 0, 1) := by decide +kernel
theorem dX3_read_38 : decode cX3_read 38 = .ok (.istore_n 3, 1) := by decide +kernel
theorem dX3_read_39 : decode cX3_read 39 = .ok (.iload_n 3, 1) := by decide +kernel
theorem dX3_read_40 : decode cX3_read 40 = .ok (.iload_n 2, 1) := by decide +kernel
theorem dX3_read_41 : decode cX3_read 41 = .ok (.if_icmp .ge 52, 3) := by decide +kernel
theorem dX3_read_44 : decode cX3_read 44 = .ok (.aload_n 0, 1) := by decide +kernel
theorem dX3_read_45 : decode cX3_read 45 = .ok (.iload_n 1, 1) := by decide +kernel
theorem dX3_read_46 : decode cX3_read 46 = .ok (.invokevirtual 30, 3) := by decide +kernel
theorem dX3_read_49 : decode cX3_read 49 = .ok (.ifCond .ne 5, 3) := by decide +kernel
theorem dX3_read_52 : decode cX3_read 52 = .ok (.iload_n 1, 1) := by decide +kernel
theorem dX3_read_53 : decode cX3_read 53 = .ok (.ireturn, 1) := by decide +kernel
theorem dX3_read_54 : decode cX3_read 54 = .ok (.iinc 1 1, 3) := by decide +kernel
theorem dX3_read_57 : decode cX3_read 57 = .ok (.aload_n 0, 1) := by decide +kernel
theorem dX3_read_58 : decode cX3_read 58 = .ok (.iload_n 1, 1) := by decide +kernel
theorem dX3_read_59 : decode cX3_read 59 = .ok (.invokevirtual 34, 3) := by decide +kernel
theorem dX3_read_62 : decode cX3_read 62 = .ok (.ifCond .ne 5, 3) := by decide +kernel
theorem dX3_read_65 : decode cX3_read 65 = .ok (.iload_n 1, 1) := by decide +kernel
theorem dX3_read_66 : decode cX3_read 66 = .ok (.ireturn, 1) := by decide +kernel
theorem dX3_read_67 : decode cX3_read 67 = .ok (.aload_n 0, 1) := by decide +kernel
theorem dX3_read_68 : decode cX3_read 68 = .ok (.iload_n 1, 1) := by decide +kernel
theorem dX3_read_69 : decode cX3_read 69 = .ok (.invokevirtual 37, 3) := by decide +kernel
theorem dX3_read_72 : decode cX3_read 72 = .ok (.istore 4, 2) := by decide +kernel
theorem dX3_read_74 : decode cX3_read 74 = .ok (.aload_n 0, 1) := by decide +kernel
theorem dX3_read_75 : decode cX3_read 75 = .ok (.iload_n 3, 1) := by decide +kernel
theorem dX3_read_76 : decode cX3_read 76 = .ok (.iload_n 1, 1) := by decide +kernel
theorem dX3_read_77 : decode cX3_read 77 = .ok (.iload 4, 2) := by decide +kernel
theorem dX3_read_79 : decode cX3_read 79 = .ok (.invokevirtual 40, 3) := by decide +kernel
theorem dX3_read_82 : decode cX3_read 82 = .ok (.iload_n 1, 1) := by decide +kernel
theorem dX3_read_83 : decode cX3_read 83 = .ok (.iload 4, 2) := by decide +kernel
theorem dX3_read_85 : decode cX3_read 85 = .ok (.iadd, 1) := by decide +kernel
theorem dX3_read_86 : decode cX3_read 86 = .ok (.istore_n 1, 1) := by decide +kernel
theorem dX3_read_87 : decode cX3_read 87 = .ok (.iinc 3 1, 3) := by decide +kernel
theorem dX3_read_90 : decode cX3_read 90 = .ok (.goto (-51), 3) := by decide +kernel
theorem dX3_read_93 : decode cX3_read 93 = .ok (.iload_n 1, 1) := by decide +kernel
theorem dX3_read_94 : decode cX3_read 94 = .ok (.aload_n 0, 1) := by decide +kernel
theorem dX3_read_95 : decode cX3_read 95 = .ok (.getfield 15, 3) := by decide +kernel
theorem dX3_read_98 : decode cX3_read 98 = .ok (.if_icmp .ge 7, 3) := by decide +kernel
theorem dX3_read_101 : decode cX3_read 101 = .ok (.iload_n 1, 1) := by decide +kernel
theorem dX3_read_102 : decode cX3_read 102 = .ok (.goto 4, 3) := by decide +kernel
theorem dX3_read_105 : decode cX3_read 105 = .ok (.iconst (-1), 1) := by decide +kernel
theorem dX3_read_106 : decode cX3_read 106 = .ok (.ireturn, 1) := by decide +kernel
theorem dX3_wordLength_0 : decode cX3_wordLength 0 = .ok (.iconst 0, 1) := by decide +kernel
theorem dX3_wordLength_1 : decode cX3_wordLength 1 = .ok (.istore_n 1, 1) := by decide +kernel
theorem dX3_wordLength_2 : decode cX3_wordLength 2 = .ok (.iload_n 1, 1) := by decide +kernel
theorem dX3_wordLength_3 : decode cX3_wordLength 3 = .ok (.aload_n 0, 1) := by decide +kernel
theorem dX3_wordLength_4 : decode cX3_wordLength 4 = .ok (.getfield 15, 3) := by decide +kernel
theorem dX3_wordLength_7 : decode cX3_wordLength 7 = .ok (.if_icmp .ge 31, 3) := by decide +kernel
theorem dX3_wordLength_10 : decode cX3_wordLength 10 = .ok (.aload_n 0, 1) := by decide +kernel
theorem dX3_wordLength_11 : decode cX3_wordLength 11 = .ok (.getfield 9, 3) := by decide +kernel
theorem dX3_wordLength_14 : decode cX3_wordLength 14 = .ok (.iload_n 1, 1) := by decide +kernel
theorem dX3_wordLength_15 : decode cX3_wordLength 15 = .ok (.caload, 1) := by decide +kernel
theorem dX3_wordLength_16 : decode cX3_wordLength 16 = .ok (.bipush 97, 2) := by decide +kernel
theorem dX3_wordLength_18 : decode cX3_wordLength 18 = .ok (.if_icmp .lt 20, 3) := by decide +kernel
theorem dX3_wordLength_21 : decode cX3_wordLength 21 = .ok (.aload_n 0, 1) := by decide +kernel
theorem dX3_wordLength_22 : decode cX3_wordLength 22 = .ok (.getfield 9, 3) := by decide +kernel
theorem dX3_wordLength_25 : decode cX3_wordLength 25 = .ok (.iload_n 1, 1) := by decide +kernel
theorem dX3_wordLength_26 : decode cX3_wordLength 26 = .ok (.caload, 1) := by decide +kernel
theorem dX3_wordLength_27 : decode cX3_wordLength 27 = .ok (.bipush 122, 2) := by decide +kernel
theorem dX3_wordLength_29 : decode cX3_wordLength 29 = .ok (.if_icmp .gt 9, 3) := by decide +kernel
theorem dX3_wordLength_32 : decode cX3_wordLength 32 = .ok (.iinc 1 1, 3) := by decide +kernel
theorem dX3_wordLength_35 : decode cX3_wordLength 35 = .ok (.goto (-33), 3) := by decide +kernel
theorem dX3_wordLength_38 : decode cX3_wordLength 38 = .ok (.iload_n 1, 1) := by decide +kernel
theorem dX3_wordLength_39 : decode cX3_wordLength 39 = .ok (.ireturn, 1) := by decide +kernel
theorem dX3_commandOf_0 : decode cX3_commandOf 0 = .ok (.aload_n 0, 1) := by decide +kernel
theorem dX3_commandOf_1 : decode cX3_commandOf 1 = .ok (.ldc 44, 2) := by decide +kernel
theorem dX3_commandOf_3 : decode cX3_commandOf 3 = .ok (.iload_n 1, 1) := by decide +kernel
theorem dX3_commandOf_4 : decode cX3_commandOf 4 = .ok (.invokevirtual 46, 3) := by decide +kernel
theorem dX3_commandOf_7 : decode cX3_commandOf 7 = .ok (.ifCond .eq 5, 3) := by decide +kernel
theorem dX3_commandOf_10 : decode cX3_commandOf 10 = .ok (.iconst 1, 1) := by decide +kernel
theorem dX3_commandOf_11 : decode cX3_commandOf 11 = .ok (.ireturn, 1) := by decide +kernel
theorem dX3_commandOf_12 : decode cX3_commandOf 12 = .ok (.aload_n 0, 1) := by decide +kernel
theorem dX3_commandOf_13 : decode cX3_commandOf 13 = .ok (.ldc 50, 2) := by decide +kernel
theorem dX3_commandOf_15 : decode cX3_commandOf 15 = .ok (.iload_n 1, 1) := by decide +kernel
theorem dX3_commandOf_16 : decode cX3_commandOf 16 = .ok (.invokevirtual 46, 3) := by decide +kernel
theorem dX3_commandOf_19 : decode cX3_commandOf 19 = .ok (.ifCond .eq 5, 3) := by decide +kernel
theorem dX3_commandOf_22 : decode cX3_commandOf 22 = .ok (.iconst 2, 1) := by decide +kernel
theorem dX3_commandOf_23 : decode cX3_commandOf 23 = .ok (.ireturn, 1) := by decide +kernel
theorem dX3_commandOf_24 : decode cX3_commandOf 24 = .ok (.aload_n 0, 1) := by decide +kernel
theorem dX3_commandOf_25 : decode cX3_commandOf 25 = .ok (.ldc 52, 2) := by decide +kernel
theorem dX3_commandOf_27 : decode cX3_commandOf 27 = .ok (.iload_n 1, 1) := by decide +kernel
theorem dX3_commandOf_28 : decode cX3_commandOf 28 = .ok (.invokevirtual 46, 3) := by decide +kernel
theorem dX3_commandOf_31 : decode cX3_commandOf 31 = .ok (.ifCond .eq 5, 3) := by decide +kernel
theorem dX3_commandOf_34 : decode cX3_commandOf 34 = .ok (.iconst 3, 1) := by decide +kernel
theorem dX3_commandOf_35 : decode cX3_commandOf 35 = .ok (.ireturn, 1) := by decide +kernel
theorem dX3_commandOf_36 : decode cX3_commandOf 36 = .ok (.aload_n 0, 1) := by decide +kernel
theorem dX3_commandOf_37 : decode cX3_commandOf 37 = .ok (.ldc 54, 2) := by decide +kernel
theorem dX3_commandOf_39 : decode cX3_commandOf 39 = .ok (.iload_n 1, 1) := by decide +kernel
theorem dX3_commandOf_40 : decode cX3_commandOf 40 = .ok (.invokevirtual 46, 3) := by decide +kernel
theorem dX3_commandOf_43 : decode cX3_commandOf 43 = .ok (.ifCond .eq 5, 3) := by decide +kernel
theorem dX3_commandOf_46 : decode cX3_commandOf 46 = .ok (.iconst 4, 1) := by decide +kernel
theorem dX3_commandOf_47 : decode cX3_commandOf 47 = .ok (.ireturn, 1) := by decide +kernel
theorem dX3_commandOf_48 : decode cX3_commandOf 48 = .ok (.aload_n 0, 1) := by decide +kernel
theorem dX3_commandOf_49 : decode cX3_commandOf 49 = .ok (.ldc 56, 2) := by decide +kernel
theorem dX3_commandOf_51 : decode cX3_commandOf 51 = .ok (.iload_n 1, 1) := by decide +kernel
theorem dX3_commandOf_52 : decode cX3_commandOf 52 = .ok (.invokevirtual 46, 3) := by decide +kernel
theorem dX3_commandOf_55 : decode cX3_commandOf 55 = .ok (.ifCond .eq 7, 3) := by decide +kernel
theorem dX3_commandOf_58 : decode cX3_commandOf 58 = .ok (.iconst 5, 1) := by decide +kernel
theorem dX3_commandOf_59 : decode cX3_commandOf 59 = .ok (.goto 4, 3) := by decide +kernel
theorem dX3_commandOf_62 : decode cX3_commandOf 62 = .ok (.iconst 0, 1) := by decide +kernel
theorem dX3_commandOf_63 : decode cX3_commandOf 63 = .ok (.ireturn, 1) := by decide +kernel
theorem dX3_isWord_0 : decode cX3_isWord 0 = .ok (.iload_n 2, 1) := by decide +kernel
theorem dX3_isWord_1 : decode cX3_isWord 1 = .ok (.aload_n 1, 1) := by decide +kernel
theorem dX3_isWord_2 : decode cX3_isWord 2 = .ok (.invokevirtual 58, 3) := by decide +kernel
theorem dX3_isWord_5 : decode cX3_isWord 5 = .ok (.if_icmp .ne 11, 3) := by decide +kernel
theorem dX3_isWord_8 : decode cX3_isWord 8 = .ok (.iload_n 2, 1) := by decide +kernel
theorem dX3_isWord_9 : decode cX3_isWord 9 = .ok (.aload_n 0, 1) := by decide +kernel
theorem dX3_isWord_10 : decode cX3_isWord 10 = .ok (.getfield 15, 3) := by decide +kernel
theorem dX3_isWord_13 : decode cX3_isWord 13 = .ok (.if_icmp .le 5, 3) := by decide +kernel
theorem dX3_isWord_16 : decode cX3_isWord 16 = .ok (.iconst 0, 1) := by decide +kernel
theorem dX3_isWord_17 : decode cX3_isWord 17 = .ok (.ireturn, 1) := by decide +kernel
theorem dX3_isWord_18 : decode cX3_isWord 18 = .ok (.iconst 0, 1) := by decide +kernel
theorem dX3_isWord_19 : decode cX3_isWord 19 = .ok (.istore_n 3, 1) := by decide +kernel
theorem dX3_isWord_20 : decode cX3_isWord 20 = .ok (.iload_n 3, 1) := by decide +kernel
theorem dX3_isWord_21 : decode cX3_isWord 21 = .ok (.iload_n 2, 1) := by decide +kernel
theorem dX3_isWord_22 : decode cX3_isWord 22 = .ok (.if_icmp .ge 25, 3) := by decide +kernel
theorem dX3_isWord_25 : decode cX3_isWord 25 = .ok (.aload_n 0, 1) := by decide +kernel
theorem dX3_isWord_26 : decode cX3_isWord 26 = .ok (.getfield 9, 3) := by decide +kernel
theorem dX3_isWord_29 : decode cX3_isWord 29 = .ok (.iload_n 3, 1) := by decide +kernel
theorem dX3_isWord_30 : decode cX3_isWord 30 = .ok (.caload, 1) := by decide +kernel
theorem dX3_isWord_31 : decode cX3_isWord 31 = .ok (.aload_n 1, 1) := by decide +kernel
theorem dX3_isWord_32 : decode cX3_isWord 32 = .ok (.iload_n 3, 1) := by decide +kernel
theorem dX3_isWord_33 : decode cX3_isWord 33 = .ok (.invokevirtual 62, 3) := by decide +kernel
theorem dX3_isWord_36 : decode cX3_isWord 36 = .ok (.if_icmp .eq 5, 3) := by decide +kernel
theorem dX3_isWord_39 : decode cX3_isWord 39 = .ok (.iconst 0, 1) := by decide +kernel
theorem dX3_isWord_40 : decode cX3_isWord 40 = .ok (.ireturn, 1) := by decide +kernel
theorem dX3_isWord_41 : decode cX3_isWord 41 = .ok (.iinc 3 1, 3) := by decide +kernel
theorem dX3_isWord_44 : decode cX3_isWord 44 = .ok (.goto (-24), 3) := by decide +kernel
theorem dX3_isWord_47 : decode cX3_isWord 47 = .ok (.iconst 1, 1) := by decide +kernel
theorem dX3_isWord_48 : decode cX3_isWord 48 = .ok (.ireturn, 1) := by decide +kernel
theorem dX3_isBlankAt_0 : decode cX3_isBlankAt 0 = .ok (.iload_n 1, 1) := by decide +kernel
theorem dX3_isBlankAt_1 : decode cX3_isBlankAt 1 = .ok (.aload_n 0, 1) := by decide +kernel
theorem dX3_isBlankAt_2 : decode cX3_isBlankAt 2 = .ok (.getfield 15, 3) := by decide +kernel
theorem dX3_isBlankAt_5 : decode cX3_isBlankAt 5 = .ok (.if_icmp .ge 18, 3) := by decide +kernel
theorem dX3_isBlankAt_8 : decode cX3_isBlankAt 8 = .ok (.aload_n 0, 1) := by decide +kernel
theorem dX3_isBlankAt_9 : decode cX3_isBlankAt 9 = .ok (.getfield 9, 3) := by decide +kernel
theorem dX3_isBlankAt_12 : decode cX3_isBlankAt 12 = .ok (.iload_n 1, 1) := by decide +kernel
theorem dX3_isBlankAt_13 : decode cX3_isBlankAt 13 = .ok (.caload, 1) := by decide +kernel
theorem dX3_isBlankAt_14 : decode cX3_isBlankAt 14 = .ok (.bipush 32, 2) := by decide +kernel
theorem dX3_isBlankAt_16 : decode cX3_isBlankAt 16 = .ok (.if_icmp .ne 7, 3) := by decide +kernel
theorem dX3_isBlankAt_19 : decode cX3_isBlankAt 19 = .ok (.iconst 1, 1) := by decide +kernel
theorem dX3_isBlankAt_20 : decode cX3_isBlankAt 20 = .ok (.goto 4, 3) := by decide +kernel
theorem dX3_isBlankAt_23 : decode cX3_isBlankAt 23 = .ok (.iconst 0, 1) := by decide +kernel
theorem dX3_isBlankAt_24 : decode cX3_isBlankAt 24 = .ok (.ireturn, 1) := by decide +kernel
theorem dX3_isDigitAt_0 : decode cX3_isDigitAt 0 = .ok (.iload_n 1, 1) := by decide +kernel
theorem dX3_isDigitAt_1 : decode cX3_isDigitAt 1 = .ok (.aload_n 0, 1) := by decide +kernel
theorem dX3_isDigitAt_2 : decode cX3_isDigitAt 2 = .ok (.getfield 15, 3) := by decide +kernel
theorem dX3_isDigitAt_5 : decode cX3_isDigitAt 5 = .ok (.if_icmp .ge 29, 3) := by decide +kernel
theorem dX3_isDigitAt_8 : decode cX3_isDigitAt 8 = .ok (.aload_n 0, 1) := by decide +kernel
theorem dX3_isDigitAt_9 : decode cX3_isDigitAt 9 = .ok (.getfield 9, 3) := by decide +kernel
theorem dX3_isDigitAt_12 : decode cX3_isDigitAt 12 = .ok (.iload_n 1, 1) := by decide +kernel
theorem dX3_isDigitAt_13 : decode cX3_isDigitAt 13 = .ok (.caload, 1) := by decide +kernel
theorem dX3_isDigitAt_14 : decode cX3_isDigitAt 14 = .ok (.bipush 48, 2) := by decide +kernel
theorem dX3_isDigitAt_16 : decode cX3_isDigitAt 16 = .ok (.if_icmp .lt 18, 3) := by decide +kernel
theorem dX3_isDigitAt_19 : decode cX3_isDigitAt 19 = .ok (.aload_n 0, 1) := by decide +kernel
theorem dX3_isDigitAt_20 : decode cX3_isDigitAt 20 = .ok (.getfield 9, 3) := by decide +kernel
theorem dX3_isDigitAt_23 : decode cX3_isDigitAt 23 = .ok (.iload_n 1, 1) := by decide +kernel
theorem dX3_isDigitAt_24 : decode cX3_isDigitAt 24 = .ok (.caload, 1) := by decide +kernel
theorem dX3_isDigitAt_25 : decode cX3_isDigitAt 25 = .ok (.bipush 57, 2) := by decide +kernel
theorem dX3_isDigitAt_27 : decode cX3_isDigitAt 27 = .ok (.if_icmp .gt 7, 3) := by decide +kernel
theorem dX3_isDigitAt_30 : decode cX3_isDigitAt 30 = .ok (.iconst 1, 1) := by decide +kernel
theorem dX3_isDigitAt_31 : decode cX3_isDigitAt 31 = .ok (.goto 4, 3) := by decide +kernel
theorem dX3_isDigitAt_34 : decode cX3_isDigitAt 34 = .ok (.iconst 0, 1) := by decide +kernel
theorem dX3_isDigitAt_35 : decode cX3_isDigitAt 35 = .ok (.ireturn, 1) := by decide +kernel
theorem dX3_digitsAt_0 : decode cX3_digitsAt 0 = .ok (.aload_n 0, 1) := by decide +kernel
theorem dX3_digitsAt_1 : decode cX3_digitsAt 1 = .ok (.getfield 9, 3) := by decide +kernel
theorem dX3_digitsAt_4 : decode cX3_digitsAt 4 = .ok (.iload_n 1, 1) := by decide +kernel
theorem dX3_digitsAt_5 : decode cX3_digitsAt 5 = .ok (.caload, 1) := by decide +kernel
theorem dX3_digitsAt_6 : decode cX3_digitsAt 6 = .ok (.bipush 48, 2) := by decide +kernel
theorem dX3_digitsAt_8 : decode cX3_digitsAt 8 = .ok (.if_icmp .eq 17, 3) := by decide +kernel
theorem dX3_digitsAt_11 : decode cX3_digitsAt 11 = .ok (.aload_n 0, 1) := by decide +kernel
theorem dX3_digitsAt_12 : decode cX3_digitsAt 12 = .ok (.iload_n 1, 1) := by decide +kernel
theorem dX3_digitsAt_13 : decode cX3_digitsAt 13 = .ok (.iconst 1, 1) := by decide +kernel
theorem dX3_digitsAt_14 : decode cX3_digitsAt 14 = .ok (.iadd, 1) := by decide +kernel
theorem dX3_digitsAt_15 : decode cX3_digitsAt 15 = .ok (.invokevirtual 34, 3) := by decide +kernel
theorem dX3_digitsAt_18 : decode cX3_digitsAt 18 = .ok (.ifCond .eq 7, 3) := by decide +kernel
theorem dX3_digitsAt_21 : decode cX3_digitsAt 21 = .ok (.iconst 2, 1) := by decide +kernel
theorem dX3_digitsAt_22 : decode cX3_digitsAt 22 = .ok (.goto 4, 3) := by decide +kernel
theorem dX3_digitsAt_25 : decode cX3_digitsAt 25 = .ok (.iconst 1, 1) := by decide +kernel
theorem dX3_digitsAt_26 : decode cX3_digitsAt 26 = .ok (.ireturn, 1) := by decide +kernel
theorem dX3_keepNumber_0 : decode cX3_keepNumber 0 = .ok (.aload_n 0, 1) := by decide +kernel
theorem dX3_keepNumber_1 : decode cX3_keepNumber 1 = .ok (.getfield 9, 3) := by decide +kernel
theorem dX3_keepNumber_4 : decode cX3_keepNumber 4 = .ok (.iload_n 2, 1) := by decide +kernel
theorem dX3_keepNumber_5 : decode cX3_keepNumber 5 = .ok (.caload, 1) := by decide +kernel
theorem dX3_keepNumber_6 : decode cX3_keepNumber 6 = .ok (.bipush 48, 2) := by decide +kernel
theorem dX3_keepNumber_8 : decode cX3_keepNumber 8 = .ok (.isub, 1) := by decide +kernel
theorem dX3_keepNumber_9 : decode cX3_keepNumber 9 = .ok (.istore 4, 2) := by decide +kernel
theorem dX3_keepNumber_11 : decode cX3_keepNumber 11 = .ok (.iload_n 3, 1) := by decide +kernel
theorem dX3_keepNumber_12 : decode cX3_keepNumber 12 = .ok (.iconst 2, 1) := by decide +kernel
theorem dX3_keepNumber_13 : decode cX3_keepNumber 13 = .ok (.if_icmp .ne 22, 3) := by decide +kernel
theorem dX3_keepNumber_16 : decode cX3_keepNumber 16 = .ok (.bipush 10, 2) := by decide +kernel
theorem dX3_keepNumber_18 : decode cX3_keepNumber 18 = .ok (.iload 4, 2) := by decide +kernel
theorem dX3_keepNumber_20 : decode cX3_keepNumber 20 = .ok (.imul, 1) := by decide +kernel
theorem dX3_keepNumber_21 : decode cX3_keepNumber 21 = .ok (.aload_n 0, 1) := by decide +kernel
theorem dX3_keepNumber_22 : decode cX3_keepNumber 22 = .ok (.getfield 9, 3) := by decide +kernel
theorem dX3_keepNumber_25 : decode cX3_keepNumber 25 = .ok (.iload_n 2, 1) := by decide +kernel
theorem dX3_keepNumber_26 : decode cX3_keepNumber 26 = .ok (.iconst 1, 1) := by decide +kernel
theorem dX3_keepNumber_27 : decode cX3_keepNumber 27 = .ok (.iadd, 1) := by decide +kernel
theorem dX3_keepNumber_28 : decode cX3_keepNumber 28 = .ok (.caload, 1) := by decide +kernel
theorem dX3_keepNumber_29 : decode cX3_keepNumber 29 = .ok (.iadd, 1) := by decide +kernel
theorem dX3_keepNumber_30 : decode cX3_keepNumber 30 = .ok (.bipush 48, 2) := by decide +kernel
theorem dX3_keepNumber_32 : decode cX3_keepNumber 32 = .ok (.isub, 1) := by decide +kernel
theorem dX3_keepNumber_33 : decode cX3_keepNumber 33 = .ok (.istore 4, 2) := by decide +kernel
theorem dX3_keepNumber_35 : decode cX3_keepNumber 35 = .ok (.iload_n 1, 1) := by decide +kernel
theorem dX3_keepNumber_36 : decode cX3_keepNumber 36 = .ok (.ifCond .ne 12, 3) := by decide +kernel
theorem dX3_keepNumber_39 : decode cX3_keepNumber 39 = .ok (.aload_n 0, 1) := by decide +kernel
theorem dX3_keepNumber_40 : decode cX3_keepNumber 40 = .ok (.iload 4, 2) := by decide +kernel
theorem dX3_keepNumber_42 : decode cX3_keepNumber 42 = .ok (.putfield 66, 3) := by decide +kernel
theorem dX3_keepNumber_45 : decode cX3_keepNumber 45 = .ok (.goto 9, 3) := by decide +kernel
theorem dX3_keepNumber_48 : decode cX3_keepNumber 48 = .ok (.aload_n 0, 1) := by decide +kernel
theorem dX3_keepNumber_49 : decode cX3_keepNumber 49 = .ok (.iload 4, 2) := by decide +kernel
theorem dX3_keepNumber_51 : decode cX3_keepNumber 51 = .ok (.putfield 69, 3) := by decide +kernel
theorem dX3_keepNumber_54 : decode cX3_keepNumber 54 = .ok (.return_, 1) := by decide +kernel
theorem dX4_init_0 : decode cX4_init 0 = .ok (.aload_n 0, 1) := by decide +kernel
theorem dX4_init_1 : decode cX4_init 1 = .ok (.invokespecial 3, 3) := by decide +kernel
theorem dX4_init_4 : decode cX4_init 4 = .ok (.aload_n 0, 1) := by decide +kernel
theorem dX4_init_5 : decode cX4_init 5 = .ok (.iconst 4, 1) := by decide +kernel
theorem dX4_init_6 : decode cX4_init 6 = .ok (.newarray .int, 2) := by decide +kernel
theorem dX4_init_8 : decode cX4_init 8 = .ok (.putfield 9, 3) := by decide +kernel
theorem dX4_init_11 : decode cX4_init 11 = .ok (.return_, 1) := by decide +kernel
theorem dX4_begin_0 : decode cX4_begin 0 = .ok (.aload_n 0, 1) := by decide +kernel
theorem dX4_begin_1 : decode cX4_begin 1 = .ok (.iload_n 1, 1) := by decide +kernel
theorem dX4_begin_2 : decode cX4_begin 2 = .ok (.putfield 15, 3) := by decide +kernel
theorem dX4_begin_5 : decode cX4_begin 5 = .ok (.aload_n 0, 1) := by decide +kernel
theorem dX4_begin_6 : decode cX4_begin 6 = .ok (.dload_n 2, 1) := by decide +kernel
theorem dX4_begin_7 : decode cX4_begin 7 = .ok (.putfield 19, 3) := by decide +kernel
theorem dX4_begin_10 : decode cX4_begin 10 = .ok (.aload_n 0, 1) := by decide +kernel
theorem dX4_begin_11 : decode cX4_begin 11 = .ok (.dload_n 2, 1) := by decide +kernel
theorem dX4_begin_12 : decode cX4_begin 12 = .ok (.invokestatic 23, 3) := by decide +kernel
theorem dX4_begin_15 : decode cX4_begin 15 = .ok (.putfield 27, 3) := by decide +kernel
theorem dX4_begin_18 : decode cX4_begin 18 = .ok (.aload_n 0, 1) := by decide +kernel
theorem dX4_begin_19 : decode cX4_begin 19 = .ok (.iload 4, 2) := by decide +kernel
theorem dX4_begin_21 : decode cX4_begin 21 = .ok (.putfield 30, 3) := by decide +kernel
theorem dX4_begin_24 : decode cX4_begin 24 = .ok (.aload_n 0, 1) := by decide +kernel
theorem dX4_begin_25 : decode cX4_begin 25 = .ok (.iload 5, 2) := by decide +kernel
theorem dX4_begin_27 : decode cX4_begin 27 = .ok (.putfield 33, 3) := by decide +kernel
theorem dX4_begin_30 : decode cX4_begin 30 = .ok (.aload_n 0, 1) := by decide +kernel
theorem dX4_begin_31 : decode cX4_begin 31 = .ok (.iconst 0, 1) := by decide +kernel
theorem dX4_begin_32 : decode cX4_begin 32 = .ok (.putfield 36, 3) := by decide +kernel
theorem dX4_begin_35 : decode cX4_begin 35 = .ok (.aload_n 0, 1) := by decide +kernel
theorem dX4_begin_36 : decode cX4_begin 36 = .ok (.iconst 0, 1) := by decide +kernel
theorem dX4_begin_37 : decode cX4_begin 37 = .ok (.putfield 39, 3) := by decide +kernel
theorem dX4_begin_40 : decode cX4_begin 40 = .ok (.aload_n 0, 1) := by decide +kernel
theorem dX4_begin_41 : decode cX4_begin 41 = .ok (.iconst 0, 1) := by decide +kernel
theorem dX4_begin_42 : decode cX4_begin 42 = .ok (.putfield 42, 3) := by decide +kernel
theorem dX4_begin_45 : decode cX4_begin 45 = .ok (.aload_n 0, 1) := by decide +kernel
theorem dX4_begin_46 : decode cX4_begin 46 = .ok (.iconst 0, 1) := by decide +kernel
theorem dX4_begin_47 : decode cX4_begin 47 = .ok (.putfield 45, 3) := by decide +kernel
theorem dX4_begin_50 : decode cX4_begin 50 = .ok (.aload_n 0, 1) := by decide +kernel
theorem dX4_begin_51 : decode cX4_begin 51 = .ok (.iconst 0, 1) := by decide +kernel
theorem dX4_begin_52 : decode cX4_begin 52 = .ok (.putfield 48, 3) := by decide +kernel
theorem dX4_begin_55 : decode cX4_begin 55 = .ok (.return_, 1) := by decide +kernel
theorem dX4_copyFrom_0 : decode cX4_copyFrom 0 = .ok (.aload_n 1, 1) := by decide +kernel
theorem dX4_copyFrom_1 : decode cX4_copyFrom 1 = .ok (.getfield 9, 3) := by decide +kernel
theorem dX4_copyFrom_4 : decode cX4_copyFrom 4 = .ok (.iconst 0, 1) := by decide +kernel
theorem dX4_copyFrom_5 : decode cX4_copyFrom 5 = .ok (.aload_n 0, 1) := by decide +kernel
theorem dX4_copyFrom_6 : decode cX4_copyFrom 6 = .ok (.getfield 9, 3) := by decide +kernel
theorem dX4_copyFrom_9 : decode cX4_copyFrom 9 = .ok (.iconst 0, 1) := by decide +kernel
theorem dX4_copyFrom_10 : decode cX4_copyFrom 10 = .ok (.iconst 4, 1) := by decide +kernel
theorem dX4_copyFrom_11 : decode cX4_copyFrom 11 = .ok (.invokestatic 51, 3) := by decide +kernel
theorem dX4_copyFrom_14 : decode cX4_copyFrom 14 = .ok (.aload_n 0, 1) := by decide +kernel
theorem dX4_copyFrom_15 : decode cX4_copyFrom 15 = .ok (.aload_n 1, 1) := by decide +kernel
theorem dX4_copyFrom_16 : decode cX4_copyFrom 16 = .ok (.getfield 15, 3) := by decide +kernel
theorem dX4_copyFrom_19 : decode cX4_copyFrom 19 = .ok (.putfield 15, 3) := by decide +kernel
theorem dX4_copyFrom_22 : decode cX4_copyFrom 22 = .ok (.aload_n 0, 1) := by decide +kernel
theorem dX4_copyFrom_23 : decode cX4_copyFrom 23 = .ok (.aload_n 1, 1) := by decide +kernel
theorem dX4_copyFrom_24 : decode cX4_copyFrom 24 = .ok (.getfield 19, 3) := by decide +kernel
theorem dX4_copyFrom_27 : decode cX4_copyFrom 27 = .ok (.putfield 19, 3) := by decide +kernel
theorem dX4_copyFrom_30 : decode cX4_copyFrom 30 = .ok (.aload_n 0, 1) := by decide +kernel
theorem dX4_copyFrom_31 : decode cX4_copyFrom 31 = .ok (.aload_n 1, 1) := by decide +kernel
theorem dX4_copyFrom_32 : decode cX4_copyFrom 32 = .ok (.getfield 27, 3) := by decide +kernel
theorem dX4_copyFrom_35 : decode cX4_copyFrom 35 = .ok (.putfield 27, 3) := by decide +kernel
theorem dX4_copyFrom_38 : decode cX4_copyFrom 38 = .ok (.aload_n 0, 1) := by decide +kernel
theorem dX4_copyFrom_39 : decode cX4_copyFrom 39 = .ok (.aload_n 1, 1) := by decide +kernel
theorem dX4_copyFrom_40 : decode cX4_copyFrom 40 = .ok (.getfield 30, 3) := by decide +kernel
theorem dX4_copyFrom_43 : decode cX4_copyFrom 43 = .ok (.putfield 30, 3) := by decide +kernel
theorem dX4_copyFrom_46 : decode cX4_copyFrom 46 = .ok (.aload_n 0, 1) := by decide +kernel
theorem dX4_copyFrom_47 : decode cX4_copyFrom 47 = .ok (.aload_n 1, 1) := by decide +kernel
theorem dX4_copyFrom_48 : decode cX4_copyFrom 48 = .ok (.getfield 33, 3) := by decide +kernel
theorem dX4_copyFrom_51 : decode cX4_copyFrom 51 = .ok (.putfield 33, 3) := by decide +kernel
theorem dX4_copyFrom_54 : decode cX4_copyFrom 54 = .ok (.aload_n 0, 1) := by decide +kernel
theorem dX4_copyFrom_55 : decode cX4_copyFrom 55 = .ok (.aload_n 1, 1) := by decide +kernel
theorem dX4_copyFrom_56 : decode cX4_copyFrom 56 = .ok (.getfield 36, 3) := by decide +kernel
theorem dX4_copyFrom_59 : decode cX4_copyFrom 59 = .ok (.putfield 36, 3) := by decide +kernel
theorem dX4_copyFrom_62 : decode cX4_copyFrom 62 = .ok (.aload_n 0, 1) := by decide +kernel
theorem dX4_copyFrom_63 : decode cX4_copyFrom 63 = .ok (.aload_n 1, 1) := by decide +kernel
theorem dX4_copyFrom_64 : decode cX4_copyFrom 64 = .ok (.getfield 39, 3) := by decide +kernel
theorem dX4_copyFrom_67 : decode cX4_copyFrom 67 = .ok (.putfield 39, 3) := by decide +kernel
theorem dX4_copyFrom_70 : decode cX4_copyFrom 70 = .ok (.aload_n 0, 1) := by decide +kernel
theorem dX4_copyFrom_71 : decode cX4_copyFrom 71 = .ok (.aload_n 1, 1) := by decide +kernel
theorem dX4_copyFrom_72 : decode cX4_copyFrom 72 = .ok (.getfield 42, 3) := by decide +kernel
theorem dX4_copyFrom_75 : decode cX4_copyFrom 75 = .ok (.putfield 42, 3) := by decide +kernel
theorem dX4_copyFrom_78 : decode cX4_copyFrom 78 = .ok (.aload_n 0, 1) := by decide +kernel
theorem dX4_copyFrom_79 : decode cX4_copyFrom 79 = .ok (.aload_n 1, 1) := by decide +kernel
theorem dX4_copyFrom_80 : decode cX4_copyFrom 80 = .ok (.getfield 45, 3) := by decide +kernel
theorem dX4_copyFrom_83 : decode cX4_copyFrom 83 = .ok (.putfield 45, 3) := by decide +kernel
theorem dX4_copyFrom_86 : decode cX4_copyFrom 86 = .ok (.aload_n 0, 1) := by decide +kernel
theorem dX4_copyFrom_87 : decode cX4_copyFrom 87 = .ok (.aload_n 1, 1) := by decide +kernel
theorem dX4_copyFrom_88 : decode cX4_copyFrom 88 = .ok (.getfield 48, 3) := by decide +kernel
theorem dX4_copyFrom_91 : decode cX4_copyFrom 91 = .ok (.putfield 48, 3) := by decide +kernel
theorem dX4_copyFrom_94 : decode cX4_copyFrom 94 = .ok (.return_, 1) := by decide +kernel
theorem dX4_baseOf_0 : decode cX4_baseOf 0 = .ok (.dload_n 0, 1) := by decide +kernel
theorem dX4_baseOf_1 : decode cX4_baseOf 1 = .ok (.ldc2_w 57, 3) := by decide +kernel
theorem dX4_baseOf_4 : decode cX4_baseOf 4 = .ok (.dcmp .g, 1) := by decide +kernel
theorem dX4_baseOf_5 : decode cX4_baseOf 5 = .ok (.ifCond .ge 6, 3) := by decide +kernel
theorem dX4_baseOf_8 : decode cX4_baseOf 8 = .ok (.bipush 7, 2) := by decide +kernel
theorem dX4_baseOf_10 : decode cX4_baseOf 10 = .ok (.ireturn, 1) := by decide +kernel
theorem dX4_baseOf_11 : decode cX4_baseOf 11 = .ok (.dload_n 0, 1) := by decide +kernel
theorem dX4_baseOf_12 : decode cX4_baseOf 12 = .ok (.ldc2_w 59, 3) := by decide +kernel
theorem dX4_baseOf_15 : decode cX4_baseOf 15 = .ok (.dcmp .g, 1) := by decide +kernel
theorem dX4_baseOf_16 : decode cX4_baseOf 16 = .ok (.ifCond .ge 5, 3) := by decide +kernel
theorem dX4_baseOf_19 : decode cX4_baseOf 19 = .ok (.iconst 5, 1) := by decide +kernel
theorem dX4_baseOf_20 : decode cX4_baseOf 20 = .ok (.ireturn, 1) := by decide +kernel
theorem dX4_baseOf_21 : decode cX4_baseOf 21 = .ok (.dload_n 0, 1) := by decide +kernel
theorem dX4_baseOf_22 : decode cX4_baseOf 22 = .ok (.ldc2_w 61, 3) := by decide +kernel
theorem dX4_baseOf_25 : decode cX4_baseOf 25 = .ok (.dcmp .g, 1) := by decide +kernel
theorem dX4_baseOf_26 : decode cX4_baseOf 26 = .ok (.ifCond .ge 7, 3) := by decide +kernel
theorem dX4_baseOf_29 : decode cX4_baseOf 29 = .ok (.iconst 3, 1) := by decide +kernel
theorem dX4_baseOf_30 : decode cX4_baseOf 30 = .ok (.goto 4, 3) := by decide +kernel
theorem dX4_baseOf_33 : decode cX4_baseOf 33 = .ok (.iconst 1, 1) := by decide +kernel
theorem dX4_baseOf_34 : decode cX4_baseOf 34 = .ok (.ireturn, 1) := by decide +kernel
theorem dX4_hasInRow_0 : decode cX4_hasInRow 0 = .ok (.iconst 0, 1) := by decide +kernel
theorem dX4_hasInRow_1 : decode cX4_hasInRow 1 = .ok (.istore_n 2, 1) := by decide +kernel
theorem dX4_hasInRow_2 : decode cX4_hasInRow 2 = .ok (.iload_n 2, 1) := by decide +kernel
theorem dX4_hasInRow_3 : decode cX4_hasInRow 3 = .ok (.aload_n 0, 1) := by decide +kernel
theorem dX4_hasInRow_4 : decode cX4_hasInRow 4 = .ok (.getfield 39, 3) := by decide +kernel
theorem dX4_hasInRow_7 : decode cX4_hasInRow 7 = .ok (.if_icmp .ge 21, 3) := by decide +kernel
theorem dX4_hasInRow_10 : decode cX4_hasInRow 10 = .ok (.aload_n 0, 1) := by decide +kernel
theorem dX4_hasInRow_11 : decode cX4_hasInRow 11 = .ok (.getfield 9, 3) := by decide +kernel
theorem dX4_hasInRow_14 : decode cX4_hasInRow 14 = .ok (.iload_n 2, 1) := by decide +kernel
theorem dX4_hasInRow_15 : decode cX4_hasInRow 15 = .ok (.iaload, 1) := by decide +kernel
theorem dX4_hasInRow_16 : decode cX4_hasInRow 16 = .ok (.iload_n 1, 1) := by decide +kernel
theorem dX4_hasInRow_17 : decode cX4_hasInRow 17 = .ok (.if_icmp .ne 5, 3) := by decide +kernel
theorem dX4_hasInRow_20 : decode cX4_hasInRow 20 = .ok (.iconst 1, 1) := by decide +kernel
theorem dX4_hasInRow_21 : decode cX4_hasInRow 21 = .ok (.ireturn, 1) := by decide +kernel
theorem dX4_hasInRow_22 : decode cX4_hasInRow 22 = .ok (.iinc 2 1, 3) := by decide +kernel
theorem dX4_hasInRow_25 : decode cX4_hasInRow 25 = .ok (.goto (-23), 3) := by decide +kernel
theorem dX4_hasInRow_28 : decode cX4_hasInRow 28 = .ok (.iconst 0, 1) := by decide +kernel
theorem dX4_hasInRow_29 : decode cX4_hasInRow 29 = .ok (.ireturn, 1) := by decide +kernel
theorem dX4_addToRow_0 : decode cX4_addToRow 0 = .ok (.aload_n 0, 1) := by decide +kernel
theorem dX4_addToRow_1 : decode cX4_addToRow 1 = .ok (.getfield 39, 3) := by decide +kernel
theorem dX4_addToRow_4 : decode cX4_addToRow 4 = .ok (.iconst 4, 1) := by decide +kernel
theorem dX4_addToRow_5 : decode cX4_addToRow 5 = .ok (.if_icmp .ge 23, 3) := by decide +kernel
theorem dX4_addToRow_8 : decode cX4_addToRow 8 = .ok (.aload_n 0, 1) := by decide +kernel
theorem dX4_addToRow_9 : decode cX4_addToRow 9 = .ok (.getfield 9, 3) := by decide +kernel
theorem dX4_addToRow_12 : decode cX4_addToRow 12 = .ok (.aload_n 0, 1) := by decide +kernel
theorem dX4_addToRow_13 : decode cX4_addToRow 13 = .ok (.getfield 39, 3) := by decide +kernel
theorem dX4_addToRow_16 : decode cX4_addToRow 16 = .ok (.iload_n 1, 1) := by decide +kernel
theorem dX4_addToRow_17 : decode cX4_addToRow 17 = .ok (.iastore, 1) := by decide +kernel
theorem dX4_addToRow_18 : decode cX4_addToRow 18 = .ok (.aload_n 0, 1) := by decide +kernel
theorem dX4_addToRow_19 : decode cX4_addToRow 19 = .ok (.dup, 1) := by decide +kernel
theorem dX4_addToRow_20 : decode cX4_addToRow 20 = .ok (.getfield 39, 3) := by decide +kernel
theorem dX4_addToRow_23 : decode cX4_addToRow 23 = .ok (.iconst 1, 1) := by decide +kernel
theorem dX4_addToRow_24 : decode cX4_addToRow 24 = .ok (.iadd, 1) := by decide +kernel
theorem dX4_addToRow_25 : decode cX4_addToRow 25 = .ok (.putfield 39, 3) := by decide +kernel
theorem dX4_addToRow_28 : decode cX4_addToRow 28 = .ok (.return_, 1) := by decide +kernel
theorem dX4_takeFromRow_0 : decode cX4_takeFromRow 0 = .ok (.iconst 0, 1) := by decide +kernel
theorem dX4_takeFromRow_1 : decode cX4_takeFromRow 1 = .ok (.istore_n 2, 1) := by decide +kernel
theorem dX4_takeFromRow_2 : decode cX4_takeFromRow 2 = .ok (.iconst 0, 1) := by decide +kernel
theorem dX4_takeFromRow_3 : decode cX4_takeFromRow 3 = .ok (.istore_n 3, 1) := by decide +kernel
theorem dX4_takeFromRow_4 : decode cX4_takeFromRow 4 = .ok (.iload_n 3, 1) := by decide +kernel
theorem dX4_takeFromRow_5 : decode cX4_takeFromRow 5 = .ok (.aload_n 0, 1) := by decide +kernel
theorem dX4_takeFromRow_6 : decode cX4_takeFromRow 6 = .ok (.getfield 39, 3) := by decide +kernel
theorem dX4_takeFromRow_9 : decode cX4_takeFromRow 9 = .ok (.if_icmp .ge 34, 3) := by decide +kernel
theorem dX4_takeFromRow_12 : decode cX4_takeFromRow 12 = .ok (.aload_n 0, 1) := by decide +kernel
theorem dX4_takeFromRow_13 : decode cX4_takeFromRow 13 = .ok (.getfield 9, 3) := by decide +kernel
theorem dX4_takeFromRow_16 : decode cX4_takeFromRow 16 = .ok (.iload_n 3, 1) := by decide +kernel
theorem dX4_takeFromRow_17 : decode cX4_takeFromRow 17 = .ok (.iaload, 1) := by decide +kernel
theorem dX4_takeFromRow_18 : decode cX4_takeFromRow 18 = .ok (.iload_n 1, 1) := by decide +kernel
theorem dX4_takeFromRow_19 : decode cX4_takeFromRow 19 = .ok (.if_icmp .eq 18, 3) := by decide +kernel
theorem dX4_takeFromRow_22 : decode cX4_takeFromRow 22 = .ok (.aload_n 0, 1) := by decide +kernel
theorem dX4_takeFromRow_23 : decode cX4_takeFromRow 23 = .ok (.getfield 9, 3) := by decide +kernel
theorem dX4_takeFromRow_26 : decode cX4_takeFromRow 26 = .ok (.iload_n 2, 1) := by decide +kernel
theorem dX4_takeFromRow_27 : decode cX4_takeFromRow 27 = .ok (.aload_n 0, 1) := by decide +kernel
theorem dX4_takeFromRow_28 : decode cX4_takeFromRow 28 = .ok (.getfield 9, 3) := by decide +kernel
theorem dX4_takeFromRow_31 : decode cX4_takeFromRow 31 = .ok (.iload_n 3, 1) := by decide +kernel
theorem dX4_takeFromRow_32 : decode cX4_takeFromRow 32 = .ok (.iaload, 1) := by decide +kernel
theorem dX4_takeFromRow_33 : decode cX4_takeFromRow 33 = .ok (.iastore, 1) := by decide +kernel
theorem dX4_takeFromRow_34 : decode cX4_takeFromRow 34 = .ok (.iinc 2 1, 3) := by decide +kernel
theorem dX4_takeFromRow_37 : decode cX4_takeFromRow 37 = .ok (.iinc 3 1, 3) := by decide +kernel
theorem dX4_takeFromRow_40 : decode cX4_takeFromRow 40 = .ok (.goto (-36), 3) := by decide +kernel
theorem dX4_takeFromRow_43 : decode cX4_takeFromRow 43 = .ok (.aload_n 0, 1) := by decide +kernel
theorem dX4_takeFromRow_44 : decode cX4_takeFromRow 44 = .ok (.iload_n 2, 1) := by decide +kernel
theorem dX4_takeFromRow_45 : decode cX4_takeFromRow 45 = .ok (.putfield 39, 3) := by decide +kernel
theorem dX4_takeFromRow_48 : decode cX4_takeFromRow 48 = .ok (.return_, 1) := by decide +kernel
theorem dX4_refundFor_0 : decode cX4_refundFor 0 = .ok (.aload_n 0, 1) := by decide +kernel
theorem dX4_refundFor_1 : decode cX4_refundFor 1 = .ok (.getfield 36, 3) := by decide +kernel
theorem dX4_refundFor_4 : decode cX4_refundFor 4 = .ok (.ifCond .gt 5, 3) := by decide +kernel
theorem dX4_refundFor_7 : decode cX4_refundFor 7 = .ok (.iconst 0, 1) := by decide +kernel
theorem dX4_refundFor_8 : decode cX4_refundFor 8 = .ok (.ireturn, 1) := by decide +kernel
theorem dX4_refundFor_9 : decode cX4_refundFor 9 = .ok (.aload_n 0, 1) := by decide +kernel
theorem dX4_refundFor_10 : decode cX4_refundFor 10 = .ok (.getfield 42, 3) := by decide +kernel
theorem dX4_refundFor_13 : decode cX4_refundFor 13 = .ok (.i2d, 1) := by decide +kernel
theorem dX4_refundFor_14 : decode cX4_refundFor 14 = .ok (.aload_n 0, 1) := by decide +kernel
theorem dX4_refundFor_15 : decode cX4_refundFor 15 = .ok (.getfield 36, 3) := by decide +kernel
theorem dX4_refundFor_18 : decode cX4_refundFor 18 = .ok (.i2d, 1) := by decide +kernel
theorem dX4_refundFor_19 : decode cX4_refundFor 19 = .ok (.ddiv, 1) := by decide +kernel
theorem dX4_refundFor_20 : decode cX4_refundFor 20 = .ok (.iload_n 1, 1) := by decide +kernel
theorem dX4_refundFor_21 : decode cX4_refundFor 21 = .ok (.i2d, 1) := by decide +kernel
theorem dX4_refundFor_22 : decode cX4_refundFor 22 = .ok (.dmul, 1) := by decide +kernel
theorem dX4_refundFor_23 : decode cX4_refundFor 23 = .ok (.aload_n 0, 1) := by decide +kernel
theorem dX4_refundFor_24 : decode cX4_refundFor 24 = .ok (.getfield 15, 3) := by decide +kernel
theorem dX4_refundFor_27 : decode cX4_refundFor 27 = .ok (.iload_n 2, 1) := by decide +kernel
theorem dX4_refundFor_28 : decode cX4_refundFor 28 = .ok (.isub, 1) := by decide +kernel
theorem dX4_refundFor_29 : decode cX4_refundFor 29 = .ok (.invokestatic 63, 3) := by decide +kernel
theorem dX4_refundFor_32 : decode cX4_refundFor 32 = .ok (.dmul, 1) := by decide +kernel
theorem dX4_refundFor_33 : decode cX4_refundFor 33 = .ok (.d2i, 1) := by decide +kernel
theorem dX4_refundFor_34 : decode cX4_refundFor 34 = .ok (.ireturn, 1) := by decide +kernel
theorem dX4_shareAt_0 : decode cX4_shareAt 0 = .ok (.iload_n 0, 1) := by decide +kernel
theorem dX4_shareAt_1 : decode cX4_shareAt 1 = .ok (.bipush 14, 2) := by decide +kernel
theorem dX4_shareAt_3 : decode cX4_shareAt 3 = .ok (.if_icmp .lt 5, 3) := by decide +kernel
theorem dX4_shareAt_6 : decode cX4_shareAt 6 = .ok (.dconst 1, 1) := by decide +kernel
theorem dX4_shareAt_7 : decode cX4_shareAt 7 = .ok (.dreturn, 1) := by decide +kernel
theorem dX4_shareAt_8 : decode cX4_shareAt 8 = .ok (.iload_n 0, 1) := by decide +kernel
theorem dX4_shareAt_9 : decode cX4_shareAt 9 = .ok (.bipush 7, 2) := by decide +kernel
theorem dX4_shareAt_11 : decode cX4_shareAt 11 = .ok (.if_icmp .lt 7, 3) := by decide +kernel
theorem dX4_shareAt_14 : decode cX4_shareAt 14 = .ok (.ldc2_w 67, 3) := by decide +kernel
theorem dX4_shareAt_17 : decode cX4_shareAt 17 = .ok (.dreturn, 1) := by decide +kernel
theorem dX4_shareAt_18 : decode cX4_shareAt 18 = .ok (.iload_n 0, 1) := by decide +kernel
theorem dX4_shareAt_19 : decode cX4_shareAt 19 = .ok (.iconst 3, 1) := by decide +kernel
theorem dX4_shareAt_20 : decode cX4_shareAt 20 = .ok (.if_icmp .lt 9, 3) := by decide +kernel
theorem dX4_shareAt_23 : decode cX4_shareAt 23 = .ok (.ldc2_w 69, 3) := by decide +kernel
theorem dX4_shareAt_26 : decode cX4_shareAt 26 = .ok (.goto 4, 3) := by decide +kernel
theorem dX4_shareAt_29 : decode cX4_shareAt 29 = .ok (.dconst 0, 1) := by decide +kernel
theorem dX4_shareAt_30 : decode cX4_shareAt 30 = .ok (.dreturn, 1) := by decide +kernel
theorem dX4_fitsInto_0 : decode cX4_fitsInto 0 = .ok (.aload_n 0, 1) := by decide +kernel
theorem dX4_fitsInto_1 : decode cX4_fitsInto 1 = .ok (.getfield 45, 3) := by decide +kernel
theorem dX4_fitsInto_4 : decode cX4_fitsInto 4 = .ok (.ifCond .ne 65, 3) := by decide +kernel
theorem dX4_fitsInto_7 : decode cX4_fitsInto 7 = .ok (.aload_n 1, 1) := by decide +kernel
theorem dX4_fitsInto_8 : decode cX4_fitsInto 8 = .ok (.getfield 45, 3) := by decide +kernel
theorem dX4_fitsInto_11 : decode cX4_fitsInto 11 = .ok (.ifCond .ne 58, 3) := by decide +kernel
theorem dX4_fitsInto_14 : decode cX4_fitsInto 14 = .ok (.aload_n 0, 1) := by decide +kernel
theorem dX4_fitsInto_15 : decode cX4_fitsInto 15 = .ok (.getfield 15, 3) := by decide +kernel
theorem dX4_fitsInto_18 : decode cX4_fitsInto 18 = .ok (.aload_n 1, 1) := by decide +kernel
theorem dX4_fitsInto_19 : decode cX4_fitsInto 19 = .ok (.getfield 15, 3) := by decide +kernel
theorem dX4_fitsInto_22 : decode cX4_fitsInto 22 = .ok (.if_icmp .ne 47, 3) := by decide +kernel
theorem dX4_fitsInto_25 : decode cX4_fitsInto 25 = .ok (.aload_n 1, 1) := by decide +kernel
theorem dX4_fitsInto_26 : decode cX4_fitsInto 26 = .ok (.getfield 19, 3) := by decide +kernel
theorem dX4_fitsInto_29 : decode cX4_fitsInto 29 = .ok (.aload_n 0, 1) := by decide +kernel
theorem dX4_fitsInto_30 : decode cX4_fitsInto 30 = .ok (.getfield 19, 3) := by decide +kernel
theorem dX4_fitsInto_33 : decode cX4_fitsInto 33 = .ok (.dcmp .g, 1) := by decide +kernel
theorem dX4_fitsInto_34 : decode cX4_fitsInto 34 = .ok (.ifCond .gt 35, 3) := by decide +kernel
theorem dX4_fitsInto_37 : decode cX4_fitsInto 37 = .ok (.aload_n 1, 1) := by decide +kernel
theorem dX4_fitsInto_38 : decode cX4_fitsInto 38 = .ok (.getfield 33, 3) := by decide +kernel
theorem dX4_fitsInto_41 : decode cX4_fitsInto 41 = .ok (.aload_n 0, 1) := by decide +kernel
theorem dX4_fitsInto_42 : decode cX4_fitsInto 42 = .ok (.getfield 33, 3) := by decide +kernel
theorem dX4_fitsInto_45 : decode cX4_fitsInto 45 = .ok (.iconst (-1), 1) := by decide +kernel
theorem dX4_fitsInto_46 : decode cX4_fitsInto 46 = .ok (.ixor, 1) := by decide +kernel
theorem dX4_fitsInto_47 : decode cX4_fitsInto 47 = .ok (.iand, 1) := by decide +kernel
theorem dX4_fitsInto_48 : decode cX4_fitsInto 48 = .ok (.ifCond .ne 21, 3) := by decide +kernel
theorem dX4_fitsInto_51 : decode cX4_fitsInto 51 = .ok (.aload_n 0, 1) := by decide +kernel
theorem dX4_fitsInto_52 : decode cX4_fitsInto 52 = .ok (.getfield 36, 3) := by decide +kernel
theorem dX4_fitsInto_55 : decode cX4_fitsInto 55 = .ok (.aload_n 1, 1) := by decide +kernel
theorem dX4_fitsInto_56 : decode cX4_fitsInto 56 = .ok (.getfield 36, 3) := by decide +kernel
theorem dX4_fitsInto_59 : decode cX4_fitsInto 59 = .ok (.iadd, 1) := by decide +kernel
theorem dX4_fitsInto_60 : decode cX4_fitsInto 60 = .ok (.bipush 12, 2) := by decide +kernel
theorem dX4_fitsInto_62 : decode cX4_fitsInto 62 = .ok (.if_icmp .gt 7, 3) := by decide +kernel
theorem dX4_fitsInto_65 : decode cX4_fitsInto 65 = .ok (.iconst 1, 1) := by decide +kernel
theorem dX4_fitsInto_66 : decode cX4_fitsInto 66 = .ok (.goto 4, 3) := by decide +kernel
theorem dX4_fitsInto_69 : decode cX4_fitsInto 69 = .ok (.iconst 0, 1) := by decide +kernel
theorem dX4_fitsInto_70 : decode cX4_fitsInto 70 = .ok (.ireturn, 1) := by decide +kernel
theorem dX4_moveInto_0 : decode cX4_moveInto 0 = .ok (.aload_n 1, 1) := by decide +kernel
theorem dX4_moveInto_1 : decode cX4_moveInto 1 = .ok (.dup, 1) := by decide +kernel
theorem dX4_moveInto_2 : decode cX4_moveInto 2 = .ok (.getfield 36, 3) := by decide +kernel
theorem dX4_moveInto_5 : decode cX4_moveInto 5 = .ok (.aload_n 0, 1) := by decide +kernel
theorem dX4_moveInto_6 : decode cX4_moveInto 6 = .ok (.getfield 36, 3) := by decide +kernel
theorem dX4_moveInto_9 : decode cX4_moveInto 9 = .ok (.iadd, 1) := by decide +kernel
theorem dX4_moveInto_10 : decode cX4_moveInto 10 = .ok (.putfield 36, 3) := by decide +kernel
theorem dX4_moveInto_13 : decode cX4_moveInto 13 = .ok (.aload_n 1, 1) := by decide +kernel
theorem dX4_moveInto_14 : decode cX4_moveInto 14 = .ok (.dup, 1) := by decide +kernel
theorem dX4_moveInto_15 : decode cX4_moveInto 15 = .ok (.getfield 42, 3) := by decide +kernel
theorem dX4_moveInto_18 : decode cX4_moveInto 18 = .ok (.aload_n 0, 1) := by decide +kernel
theorem dX4_moveInto_19 : decode cX4_moveInto 19 = .ok (.getfield 42, 3) := by decide +kernel
theorem dX4_moveInto_22 : decode cX4_moveInto 22 = .ok (.iadd, 1) := by decide +kernel
theorem dX4_moveInto_23 : decode cX4_moveInto 23 = .ok (.putfield 42, 3) := by decide +kernel
theorem dX4_moveInto_26 : decode cX4_moveInto 26 = .ok (.iconst 0, 1) := by decide +kernel
theorem dX4_moveInto_27 : decode cX4_moveInto 27 = .ok (.istore_n 2, 1) := by decide +kernel
theorem dX4_moveInto_28 : decode cX4_moveInto 28 = .ok (.iload_n 2, 1) := by decide +kernel
theorem dX4_moveInto_29 : decode cX4_moveInto 29 = .ok (.aload_n 0, 1) := by decide +kernel
theorem dX4_moveInto_30 : decode cX4_moveInto 30 = .ok (.getfield 39, 3) := by decide +kernel
theorem dX4_moveInto_33 : decode cX4_moveInto 33 = .ok (.if_icmp .ge 19, 3) := by decide +kernel
theorem dX4_moveInto_36 : decode cX4_moveInto 36 = .ok (.aload_n 1, 1) := by decide +kernel
theorem dX4_moveInto_37 : decode cX4_moveInto 37 = .ok (.aload_n 0, 1) := by decide +kernel
theorem dX4_moveInto_38 : decode cX4_moveInto 38 = .ok (.getfield 9, 3) := by decide +kernel
theorem dX4_moveInto_41 : decode cX4_moveInto 41 = .ok (.iload_n 2, 1) := by decide +kernel
theorem dX4_moveInto_42 : decode cX4_moveInto 42 = .ok (.iaload, 1) := by decide +kernel
theorem dX4_moveInto_43 : decode cX4_moveInto 43 = .ok (.invokevirtual 71, 3) := by decide +kernel
theorem dX4_moveInto_46 : decode cX4_moveInto 46 = .ok (.iinc 2 1, 3) := by decide +kernel
theorem dX4_moveInto_49 : decode cX4_moveInto 49 = .ok (.goto (-21), 3) := by decide +kernel
theorem dX4_moveInto_52 : decode cX4_moveInto 52 = .ok (.aload_n 0, 1) := by decide +kernel
theorem dX4_moveInto_53 : decode cX4_moveInto 53 = .ok (.iconst 0, 1) := by decide +kernel
theorem dX4_moveInto_54 : decode cX4_moveInto 54 = .ok (.putfield 36, 3) := by decide +kernel
theorem dX4_moveInto_57 : decode cX4_moveInto 57 = .ok (.aload_n 0, 1) := by decide +kernel
theorem dX4_moveInto_58 : decode cX4_moveInto 58 = .ok (.iconst 0, 1) := by decide +kernel
theorem dX4_moveInto_59 : decode cX4_moveInto 59 = .ok (.putfield 39, 3) := by decide +kernel
theorem dX4_moveInto_62 : decode cX4_moveInto 62 = .ok (.aload_n 0, 1) := by decide +kernel
theorem dX4_moveInto_63 : decode cX4_moveInto 63 = .ok (.iconst 0, 1) := by decide +kernel
theorem dX4_moveInto_64 : decode cX4_moveInto 64 = .ok (.putfield 42, 3) := by decide +kernel
theorem dX4_moveInto_67 : decode cX4_moveInto 67 = .ok (.aload_n 0, 1) := by decide +kernel
theorem dX4_moveInto_68 : decode cX4_moveInto 68 = .ok (.iconst 3, 1) := by decide +kernel
theorem dX4_moveInto_69 : decode cX4_moveInto 69 = .ok (.putfield 45, 3) := by decide +kernel
theorem dX4_moveInto_72 : decode cX4_moveInto 72 = .ok (.return_, 1) := by decide +kernel
theorem dX5_init_0 : decode cX5_init 0 = .ok (.aload_n 0, 1) := by decide +kernel
theorem dX5_init_1 : decode cX5_init 1 = .ok (.invokespecial 1, 3) := by decide +kernel
theorem dX5_init_4 : decode cX5_init 4 = .ok (.aload_n 0, 1) := by decide +kernel
theorem dX5_init_5 : decode cX5_init 5 = .ok (.new 7, 3) := by decide +kernel
theorem dX5_init_8 : decode cX5_init 8 = .ok (.dup, 1) := by decide +kernel
theorem dX5_init_9 : decode cX5_init 9 = .ok (.invokespecial 9, 3) := by decide +kernel
theorem dX5_init_12 : decode cX5_init 12 = .ok (.putfield 10, 3) := by decide +kernel
theorem dX5_init_15 : decode cX5_init 15 = .ok (.aload_n 0, 1) := by decide +kernel
theorem dX5_init_16 : decode cX5_init 16 = .ok (.new 7, 3) := by decide +kernel
theorem dX5_init_19 : decode cX5_init 19 = .ok (.dup, 1) := by decide +kernel
theorem dX5_init_20 : decode cX5_init 20 = .ok (.invokespecial 9, 3) := by decide +kernel
theorem dX5_init_23 : decode cX5_init 23 = .ok (.putfield 16, 3) := by decide +kernel
theorem dX5_init_26 : decode cX5_init 26 = .ok (.aload_n 0, 1) := by decide +kernel
theorem dX5_init_27 : decode cX5_init 27 = .ok (.new 19, 3) := by decide +kernel
theorem dX5_init_30 : decode cX5_init 30 = .ok (.dup, 1) := by decide +kernel
theorem dX5_init_31 : decode cX5_init 31 = .ok (.invokespecial 21, 3) := by decide +kernel
theorem dX5_init_34 : decode cX5_init 34 = .ok (.putfield 22, 3) := by decide +kernel
theorem dX5_init_37 : decode cX5_init 37 = .ok (.aload_n 0, 1) := by decide +kernel
theorem dX5_init_38 : decode cX5_init 38 = .ok (.new 26, 3) := by decide +kernel
theorem dX5_init_41 : decode cX5_init 41 = .ok (.dup, 1) := by decide +kernel
theorem dX5_init_42 : decode cX5_init 42 = .ok (.invokespecial 28, 3) := by decide +kernel
theorem dX5_init_45 : decode cX5_init 45 = .ok (.putfield 29, 3) := by decide +kernel
theorem dX5_init_48 : decode cX5_init 48 = .ok (.return_, 1) := by decide +kernel
theorem dX5_addGuide_0 : decode cX5_addGuide 0 = .ok (.iload_n 1, 1) := by decide +kernel
theorem dX5_addGuide_1 : decode cX5_addGuide 1 = .ok (.invokestatic 33, 3) := by decide +kernel
theorem dX5_addGuide_4 : decode cX5_addGuide 4 = .ok (.ifCond .eq 10, 3) := by decide +kernel
theorem dX5_addGuide_7 : decode cX5_addGuide 7 = .ok (.iload_n 2, 1) := by decide +kernel
theorem dX5_addGuide_8 : decode cX5_addGuide 8 = .ok (.invokestatic 37, 3) := by decide +kernel
theorem dX5_addGuide_11 : decode cX5_addGuide 11 = .ok (.ifCond .ne 6, 3) := by decide +kernel
theorem dX5_addGuide_14 : decode cX5_addGuide 14 = .ok (.bipush (-2), 2) := by decide +kernel
theorem dX5_addGuide_16 : decode cX5_addGuide 16 = .ok (.ireturn, 1) := by decide +kernel
theorem dX5_addGuide_17 : decode cX5_addGuide 17 = .ok (.aload_n 0, 1) := by decide +kernel
theorem dX5_addGuide_18 : decode cX5_addGuide 18 = .ok (.getfield 10, 3) := by decide +kernel
theorem dX5_addGuide_21 : decode cX5_addGuide 21 = .ok (.getfield 40, 3) := by decide +kernel
theorem dX5_addGuide_24 : decode cX5_addGuide 24 = .ok (.bipush 8, 2) := by decide +kernel
theorem dX5_addGuide_26 : decode cX5_addGuide 26 = .ok (.if_icmp .lt 6, 3) := by decide +kernel
theorem dX5_addGuide_29 : decode cX5_addGuide 29 = .ok (.bipush (-3), 2) := by decide +kernel
theorem dX5_addGuide_31 : decode cX5_addGuide 31 = .ok (.ireturn, 1) := by decide +kernel
theorem dX5_addGuide_32 : decode cX5_addGuide 32 = .ok (.aload_n 0, 1) := by decide +kernel
theorem dX5_addGuide_33 : decode cX5_addGuide 33 = .ok (.getfield 22, 3) := by decide +kernel
theorem dX5_addGuide_36 : decode cX5_addGuide 36 = .ok (.aload_n 0, 1) := by decide +kernel
theorem dX5_addGuide_37 : decode cX5_addGuide 37 = .ok (.getfield 10, 3) := by decide +kernel
theorem dX5_addGuide_40 : decode cX5_addGuide 40 = .ok (.invokevirtual 44, 3) := by decide +kernel
theorem dX5_addGuide_43 : decode cX5_addGuide 43 = .ok (.aload_n 0, 1) := by decide +kernel
theorem dX5_addGuide_44 : decode cX5_addGuide 44 = .ok (.getfield 10, 3) := by decide +kernel
theorem dX5_addGuide_47 : decode cX5_addGuide 47 = .ok (.getfield 40, 3) := by decide +kernel
theorem dX5_addGuide_50 : decode cX5_addGuide 50 = .ok (.istore_n 3, 1) := by decide +kernel
theorem dX5_addGuide_51 : decode cX5_addGuide 51 = .ok (.aload_n 0, 1) := by decide +kernel
theorem dX5_addGuide_52 : decode cX5_addGuide 52 = .ok (.getfield 10, 3) := by decide +kernel
theorem dX5_addGuide_55 : decode cX5_addGuide 55 = .ok (.getfield 48, 3) := by decide +kernel
theorem dX5_addGuide_58 : decode cX5_addGuide 58 = .ok (.iload_n 3, 1) := by decide +kernel
theorem dX5_addGuide_59 : decode cX5_addGuide 59 = .ok (.aaload, 1) := by decide +kernel
theorem dX5_addGuide_60 : decode cX5_addGuide 60 = .ok (.iload_n 1, 1) := by decide +kernel
theorem dX5_addGuide_61 : decode cX5_addGuide 61 = .ok (.iload_n 2, 1) := by decide +kernel
theorem dX5_addGuide_62 : decode cX5_addGuide 62 = .ok (.invokevirtual 52, 3) := by decide +kernel
theorem dX5_addGuide_65 : decode cX5_addGuide 65 = .ok (.aload_n 0, 1) := by decide +kernel
theorem dX5_addGuide_66 : decode cX5_addGuide 66 = .ok (.getfield 10, 3) := by decide +kernel
theorem dX5_addGuide_69 : decode cX5_addGuide 69 = .ok (.dup, 1) := by decide +kernel
theorem dX5_addGuide_70 : decode cX5_addGuide 70 = .ok (.getfield 40, 3) := by decide +kernel
theorem dX5_addGuide_73 : decode cX5_addGuide 73 = .ok (.iconst 1, 1) := by decide +kernel
theorem dX5_addGuide_74 : decode cX5_addGuide 74 = .ok (.iadd, 1) := by decide +kernel
theorem dX5_addGuide_75 : decode cX5_addGuide 75 = .ok (.putfield 40, 3) := by decide +kernel
theorem dX5_addGuide_78 : decode cX5_addGuide 78 = .ok (.iload_n 3, 1) := by decide +kernel
theorem dX5_addGuide_79 : decode cX5_addGuide 79 = .ok (.ireturn, 1) := by decide +kernel
theorem dX5_renew_0 : decode cX5_renew 0 = .ok (.aload_n 0, 1) := by decide +kernel
theorem dX5_renew_1 : decode cX5_renew 1 = .ok (.getfield 10, 3) := by decide +kernel
theorem dX5_renew_4 : decode cX5_renew 4 = .ok (.iload_n 1, 1) := by decide +kernel
theorem dX5_renew_5 : decode cX5_renew 5 = .ok (.invokevirtual 58, 3) := by decide +kernel
theorem dX5_renew_8 : decode cX5_renew 8 = .ok (.astore 4, 2) := by decide +kernel
theorem dX5_renew_10 : decode cX5_renew 10 = .ok (.aload 4, 2) := by decide +kernel
theorem dX5_renew_12 : decode cX5_renew 12 = .ok (.ifnonnull 5, 3) := by decide +kernel
theorem dX5_renew_15 : decode cX5_renew 15 = .ok (.iconst (-1), 1) := by decide +kernel
theorem dX5_renew_16 : decode cX5_renew 16 = .ok (.ireturn, 1) := by decide +kernel
theorem dX5_renew_17 : decode cX5_renew 17 = .ok (.iload_n 2, 1) := by decide +kernel
theorem dX5_renew_18 : decode cX5_renew 18 = .ok (.invokestatic 33, 3) := by decide +kernel
theorem dX5_renew_21 : decode cX5_renew 21 = .ok (.ifCond .eq 10, 3) := by decide +kernel
theorem dX5_renew_24 : decode cX5_renew 24 = .ok (.iload_n 3, 1) := by decide +kernel
theorem dX5_renew_25 : decode cX5_renew 25 = .ok (.invokestatic 37, 3) := by decide +kernel
theorem dX5_renew_28 : decode cX5_renew 28 = .ok (.ifCond .ne 6, 3) := by decide +kernel
theorem dX5_renew_31 : decode cX5_renew 31 = .ok (.bipush (-2), 2) := by decide +kernel
theorem dX5_renew_33 : decode cX5_renew 33 = .ok (.ireturn, 1) := by decide +kernel
theorem dX5_renew_34 : decode cX5_renew 34 = .ok (.aload 4, 2) := by decide +kernel
theorem dX5_renew_36 : decode cX5_renew 36 = .ok (.getfield 62, 3) := by decide +kernel
theorem dX5_renew_39 : decode cX5_renew 39 = .ok (.iload_n 2, 1) := by decide +kernel
theorem dX5_renew_40 : decode cX5_renew 40 = .ok (.if_icmp .ne 15, 3) := by decide +kernel
theorem dX5_renew_43 : decode cX5_renew 43 = .ok (.aload 4, 2) := by decide +kernel
theorem dX5_renew_45 : decode cX5_renew 45 = .ok (.getfield 65, 3) := by decide +kernel
theorem dX5_renew_48 : decode cX5_renew 48 = .ok (.iload_n 3, 1) := by decide +kernel
theorem dX5_renew_49 : decode cX5_renew 49 = .ok (.if_icmp .ne 6, 3) := by decide +kernel
theorem dX5_renew_52 : decode cX5_renew 52 = .ok (.bipush (-5), 2) := by decide +kernel
theorem dX5_renew_54 : decode cX5_renew 54 = .ok (.ireturn, 1) := by decide +kernel
theorem dX5_renew_55 : decode cX5_renew 55 = .ok (.aload_n 0, 1) := by decide +kernel
theorem dX5_renew_56 : decode cX5_renew 56 = .ok (.getfield 22, 3) := by decide +kernel
theorem dX5_renew_59 : decode cX5_renew 59 = .ok (.aload_n 0, 1) := by decide +kernel
theorem dX5_renew_60 : decode cX5_renew 60 = .ok (.getfield 10, 3) := by decide +kernel
theorem dX5_renew_63 : decode cX5_renew 63 = .ok (.invokevirtual 44, 3) := by decide +kernel
theorem dX5_renew_66 : decode cX5_renew 66 = .ok (.aload 4, 2) := by decide +kernel
theorem dX5_renew_68 : decode cX5_renew 68 = .ok (.getfield 65, 3) := by decide +kernel
theorem dX5_renew_71 : decode cX5_renew 71 = .ok (.istore 5, 2) := by decide +kernel
theorem dX5_renew_73 : decode cX5_renew 73 = .ok (.aload 4, 2) := by decide +kernel
theorem dX5_renew_75 : decode cX5_renew 75 = .ok (.iload_n 2, 1) := by decide +kernel
theorem dX5_renew_76 : decode cX5_renew 76 = .ok (.iload_n 3, 1) := by decide +kernel
theorem dX5_renew_77 : decode cX5_renew 77 = .ok (.invokevirtual 68, 3) := by decide +kernel
theorem dX5_renew_80 : decode cX5_renew 80 = .ok (.iload 5, 2) := by decide +kernel
theorem dX5_renew_82 : decode cX5_renew 82 = .ok (.ireturn, 1) := by decide +kernel
theorem dX5_addBridge_0 : decode cX5_addBridge 0 = .ok (.ldc2_w 71, 3) := by decide +kernel
theorem dX5_addBridge_3 : decode cX5_addBridge 3 = .ok (.lload_n 1, 1) := by decide +kernel
theorem dX5_addBridge_4 : decode cX5_addBridge 4 = .ok (.invokestatic 73, 3) := by decide +kernel
theorem dX5_addBridge_7 : decode cX5_addBridge 7 = .ok (.ifCond .ne 6, 3) := by decide +kernel
theorem dX5_addBridge_10 : decode cX5_addBridge 10 = .ok (.bipush (-2), 2) := by decide +kernel
theorem dX5_addBridge_12 : decode cX5_addBridge 12 = .ok (.ireturn, 1) := by decide +kernel
theorem dX5_addBridge_13 : decode cX5_addBridge 13 = .ok (.aload_n 0, 1) := by decide +kernel
theorem dX5_addBridge_14 : decode cX5_addBridge 14 = .ok (.getfield 10, 3) := by decide +kernel
theorem dX5_addBridge_17 : decode cX5_addBridge 17 = .ok (.getfield 77, 3) := by decide +kernel
theorem dX5_addBridge_20 : decode cX5_addBridge 20 = .ok (.bipush 6, 2) := by decide +kernel
theorem dX5_addBridge_22 : decode cX5_addBridge 22 = .ok (.if_icmp .lt 6, 3) := by decide +kernel
theorem dX5_addBridge_25 : decode cX5_addBridge 25 = .ok (.bipush (-3), 2) := by decide +kernel
theorem dX5_addBridge_27 : decode cX5_addBridge 27 = .ok (.ireturn, 1) := by decide +kernel
theorem dX5_addBridge_28 : decode cX5_addBridge 28 = .ok (.aload_n 0, 1) := by decide +kernel
theorem dX5_addBridge_29 : decode cX5_addBridge 29 = .ok (.getfield 22, 3) := by decide +kernel
theorem dX5_addBridge_32 : decode cX5_addBridge 32 = .ok (.aload_n 0, 1) := by decide +kernel
theorem dX5_addBridge_33 : decode cX5_addBridge 33 = .ok (.getfield 10, 3) := by decide +kernel
theorem dX5_addBridge_36 : decode cX5_addBridge 36 = .ok (.invokevirtual 44, 3) := by decide +kernel
theorem dX5_addBridge_39 : decode cX5_addBridge 39 = .ok (.aload_n 0, 1) := by decide +kernel
theorem dX5_addBridge_40 : decode cX5_addBridge 40 = .ok (.getfield 10, 3) := by decide +kernel
theorem dX5_addBridge_43 : decode cX5_addBridge 43 = .ok (.getfield 77, 3) := by decide +kernel
theorem dX5_addBridge_46 : decode cX5_addBridge 46 = .ok (.istore_n 3, 1) := by decide +kernel
theorem dX5_addBridge_47 : decode cX5_addBridge 47 = .ok (.aload_n 0, 1) := by decide +kernel
theorem dX5_addBridge_48 : decode cX5_addBridge 48 = .ok (.getfield 10, 3) := by decide +kernel
theorem dX5_addBridge_51 : decode cX5_addBridge 51 = .ok (.getfield 80, 3) := by decide +kernel
theorem dX5_addBridge_54 : decode cX5_addBridge 54 = .ok (.iload_n 3, 1) := by decide +kernel
theorem dX5_addBridge_55 : decode cX5_addBridge 55 = .ok (.lload_n 1, 1) := by decide +kernel
theorem dX5_addBridge_56 : decode cX5_addBridge 56 = .ok (.invokestatic 84, 3) := by decide +kernel
theorem dX5_addBridge_59 : decode cX5_addBridge 59 = .ok (.dastore, 1) := by decide +kernel
theorem dX5_addBridge_60 : decode cX5_addBridge 60 = .ok (.aload_n 0, 1) := by decide +kernel
theorem dX5_addBridge_61 : decode cX5_addBridge 61 = .ok (.getfield 10, 3) := by decide +kernel
theorem dX5_addBridge_64 : decode cX5_addBridge 64 = .ok (.dup, 1) := by decide +kernel
theorem dX5_addBridge_65 : decode cX5_addBridge 65 = .ok (.getfield 77, 3) := by decide +kernel
theorem dX5_addBridge_68 : decode cX5_addBridge 68 = .ok (.iconst 1, 1) := by decide +kernel
theorem dX5_addBridge_69 : decode cX5_addBridge 69 = .ok (.iadd, 1) := by decide +kernel
theorem dX5_addBridge_70 : decode cX5_addBridge 70 = .ok (.putfield 77, 3) := by decide +kernel
theorem dX5_addBridge_73 : decode cX5_addBridge 73 = .ok (.iload_n 3, 1) := by decide +kernel
theorem dX5_addBridge_74 : decode cX5_addBridge 74 = .ok (.ireturn, 1) := by decide +kernel
theorem dX5_setTemperature_0 : decode cX5_setTemperature 0 = .ok (.lload_n 1, 1) := by decide +kernel
theorem dX5_setTemperature_1 : decode cX5_setTemperature 1 = .ok (.invokestatic 88, 3) := by decide +kernel
theorem dX5_setTemperature_4 : decode cX5_setTemperature 4 = .ok (.ifCond .ne 6, 3) := by decide +kernel
theorem dX5_setTemperature_7 : decode cX5_setTemperature 7 = .ok (.bipush (-2), 2) := by decide +kernel
theorem dX5_setTemperature_9 : decode cX5_setTemperature 9 = .ok (.ireturn, 1) := by decide +kernel
theorem dX5_setTemperature_10 : decode cX5_setTemperature 10 = .ok (.lload_n 1, 1) := by decide +kernel
theorem dX5_setTemperature_11 : decode cX5_setTemperature 11 = .ok (.invokestatic 84, 3) := by decide +kernel
theorem dX5_setTemperature_14 : decode cX5_setTemperature 14 = .ok (.dstore_n 3, 1) := by decide +kernel
theorem dX5_setTemperature_15 : decode cX5_setTemperature 15 = .ok (.dload_n 3, 1) := by decide +kernel
theorem dX5_setTemperature_16 : decode cX5_setTemperature 16 = .ok (.aload_n 0, 1) := by decide +kernel
theorem dX5_setTemperature_17 : decode cX5_setTemperature 17 = .ok (.getfield 10, 3) := by decide +kernel
theorem dX5_setTemperature_20 : decode cX5_setTemperature 20 = .ok (.getfield 92, 3) := by decide +kernel
theorem dX5_setTemperature_23 : decode cX5_setTemperature 23 = .ok (.dcmp .l, 1) := by decide +kernel
theorem dX5_setTemperature_24 : decode cX5_setTemperature 24 = .ok (.ifCond .ne 6, 3) := by decide +kernel
theorem dX5_setTemperature_27 : decode cX5_setTemperature 27 = .ok (.bipush (-5), 2) := by decide +kernel
theorem dX5_setTemperature_29 : decode cX5_setTemperature 29 = .ok (.ireturn, 1) := by decide +kernel
theorem dX5_setTemperature_30 : decode cX5_setTemperature 30 = .ok (.aload_n 0, 1) := by decide +kernel
theorem dX5_setTemperature_31 : decode cX5_setTemperature 31 = .ok (.getfield 22, 3) := by decide +kernel
theorem dX5_setTemperature_34 : decode cX5_setTemperature 34 = .ok (.aload_n 0, 1) := by decide +kernel
theorem dX5_setTemperature_35 : decode cX5_setTemperature 35 = .ok (.getfield 10, 3) := by decide +kernel
theorem dX5_setTemperature_38 : decode cX5_setTemperature 38 = .ok (.invokevirtual 44, 3) := by decide +kernel
theorem dX5_setTemperature_41 : decode cX5_setTemperature 41 = .ok (.aload_n 0, 1) := by decide +kernel
theorem dX5_setTemperature_42 : decode cX5_setTemperature 42 = .ok (.getfield 10, 3) := by decide +kernel
theorem dX5_setTemperature_45 : decode cX5_setTemperature 45 = .ok (.dload_n 3, 1) := by decide +kernel
theorem dX5_setTemperature_46 : decode cX5_setTemperature 46 = .ok (.putfield 92, 3) := by decide +kernel
theorem dX5_setTemperature_49 : decode cX5_setTemperature 49 = .ok (.aload_n 0, 1) := by decide +kernel
theorem dX5_setTemperature_50 : decode cX5_setTemperature 50 = .ok (.getfield 10, 3) := by decide +kernel
theorem dX5_setTemperature_53 : decode cX5_setTemperature 53 = .ok (.lload_n 1, 1) := by decide +kernel
theorem dX5_setTemperature_54 : decode cX5_setTemperature 54 = .ok (.putfield 96, 3) := by decide +kernel
theorem dX5_setTemperature_57 : decode cX5_setTemperature 57 = .ok (.iconst 1, 1) := by decide +kernel
theorem dX5_setTemperature_58 : decode cX5_setTemperature 58 = .ok (.ireturn, 1) := by decide +kernel
theorem dX5_addTour_0 : decode cX5_addTour 0 = .ok (.iload_n 1, 1) := by decide +kernel
theorem dX5_addTour_1 : decode cX5_addTour 1 = .ok (.aload_n 0, 1) := by decide +kernel
theorem dX5_addTour_2 : decode cX5_addTour 2 = .ok (.getfield 10, 3) := by decide +kernel
theorem dX5_addTour_5 : decode cX5_addTour 5 = .ok (.getfield 100, 3) := by decide +kernel
theorem dX5_addTour_8 : decode cX5_addTour 8 = .ok (.if_icmp .lt 20, 3) := by decide +kernel
theorem dX5_addTour_11 : decode cX5_addTour 11 = .ok (.iload_n 1, 1) := by decide +kernel
theorem dX5_addTour_12 : decode cX5_addTour 12 = .ok (.sipush 999, 3) := by decide +kernel
theorem dX5_addTour_15 : decode cX5_addTour 15 = .ok (.if_icmp .gt 13, 3) := by decide +kernel
theorem dX5_addTour_18 : decode cX5_addTour 18 = .ok (.ldc2_w 103, 3) := by decide +kernel
theorem dX5_addTour_21 : decode cX5_addTour 21 = .ok (.lload_n 2, 1) := by decide +kernel
theorem dX5_addTour_22 : decode cX5_addTour 22 = .ok (.invokestatic 73, 3) := by decide +kernel
theorem dX5_addTour_25 : decode cX5_addTour 25 = .ok (.ifCond .ne 6, 3) := by decide +kernel
theorem dX5_addTour_28 : decode cX5_addTour 28 = .ok (.bipush (-2), 2) := by decide +kernel
theorem dX5_addTour_30 : decode cX5_addTour 30 = .ok (.ireturn, 1) := by decide +kernel
theorem dX5_addTour_31 : decode cX5_addTour 31 = .ok (.iload 4, 2) := by decide +kernel
theorem dX5_addTour_33 : decode cX5_addTour 33 = .ok (.iconst 1, 1) := by decide +kernel
theorem dX5_addTour_34 : decode cX5_addTour 34 = .ok (.if_icmp .lt 23, 3) := by decide +kernel
theorem dX5_addTour_37 : decode cX5_addTour 37 = .ok (.iload 4, 2) := by decide +kernel
theorem dX5_addTour_39 : decode cX5_addTour 39 = .ok (.sipush 9999, 3) := by decide +kernel
theorem dX5_addTour_42 : decode cX5_addTour 42 = .ok (.if_icmp .gt 15, 3) := by decide +kernel
theorem dX5_addTour_45 : decode cX5_addTour 45 = .ok (.aload_n 0, 1) := by decide +kernel
theorem dX5_addTour_46 : decode cX5_addTour 46 = .ok (.getfield 10, 3) := by decide +kernel
theorem dX5_addTour_49 : decode cX5_addTour 49 = .ok (.iload 5, 2) := by decide +kernel
theorem dX5_addTour_51 : decode cX5_addTour 51 = .ok (.invokevirtual 105, 3) := by decide +kernel
theorem dX5_addTour_54 : decode cX5_addTour 54 = .ok (.ifCond .ne 6, 3) := by decide +kernel
theorem dX5_addTour_57 : decode cX5_addTour 57 = .ok (.bipush (-2), 2) := by decide +kernel
theorem dX5_addTour_59 : decode cX5_addTour 59 = .ok (.ireturn, 1) := by decide +kernel
theorem dX5_addTour_60 : decode cX5_addTour 60 = .ok (.aload_n 0, 1) := by decide +kernel
theorem dX5_addTour_61 : decode cX5_addTour 61 = .ok (.getfield 10, 3) := by decide +kernel
theorem dX5_addTour_64 : decode cX5_addTour 64 = .ok (.getfield 108, 3) := by decide +kernel
theorem dX5_addTour_67 : decode cX5_addTour 67 = .ok (.bipush 10, 2) := by decide +kernel
theorem dX5_addTour_69 : decode cX5_addTour 69 = .ok (.if_icmp .lt 6, 3) := by decide +kernel
theorem dX5_addTour_72 : decode cX5_addTour 72 = .ok (.bipush (-3), 2) := by decide +kernel
theorem dX5_addTour_74 : decode cX5_addTour 74 = .ok (.ireturn, 1) := by decide +kernel
theorem dX5_addTour_75 : decode cX5_addTour 75 = .ok (.aload_n 0, 1) := by decide +kernel
theorem dX5_addTour_76 : decode cX5_addTour 76 = .ok (.getfield 22, 3) := by decide +kernel
theorem dX5_addTour_79 : decode cX5_addTour 79 = .ok (.aload_n 0, 1) := by decide +kernel
theorem dX5_addTour_80 : decode cX5_addTour 80 = .ok (.getfield 10, 3) := by decide +kernel
theorem dX5_addTour_83 : decode cX5_addTour 83 = .ok (.invokevirtual 44, 3) := by decide +kernel
theorem dX5_addTour_86 : decode cX5_addTour 86 = .ok (.aload_n 0, 1) := by decide +kernel
theorem dX5_addTour_87 : decode cX5_addTour 87 = .ok (.getfield 10, 3) := by decide +kernel
theorem dX5_addTour_90 : decode cX5_addTour 90 = .ok (.getfield 108, 3) := by decide +kernel
theorem dX5_addTour_93 : decode cX5_addTour 93 = .ok (.istore 6, 2) := by decide +kernel
theorem dX5_addTour_95 : decode cX5_addTour 95 = .ok (.aload_n 0, 1) := by decide +kernel
theorem dX5_addTour_96 : decode cX5_addTour 96 = .ok (.getfield 10, 3) := by decide +kernel
theorem dX5_addTour_99 : decode cX5_addTour 99 = .ok (.getfield 111, 3) := by decide +kernel
theorem dX5_addTour_102 : decode cX5_addTour 102 = .ok (.iload 6, 2) := by decide +kernel
theorem dX5_addTour_104 : decode cX5_addTour 104 = .ok (.aaload, 1) := by decide +kernel
theorem dX5_addTour_105 : decode cX5_addTour 105 = .ok (.iload_n 1, 1) := by decide +kernel
theorem dX5_addTour_106 : decode cX5_addTour 106 = .ok (.lload_n 2, 1) := by decide +kernel
theorem dX5_addTour_107 : decode cX5_addTour 107 = .ok (.invokestatic 84, 3) := by decide +kernel
theorem dX5_addTour_110 : decode cX5_addTour 110 = .ok (.iload 4, 2) := by decide +kernel
theorem dX5_addTour_112 : decode cX5_addTour 112 = .ok (.iload 5, 2) := by decide +kernel
theorem dX5_addTour_114 : decode cX5_addTour 114 = .ok (.invokevirtual 115, 3) := by decide +kernel
theorem dX5_addTour_117 : decode cX5_addTour 117 = .ok (.aload_n 0, 1) := by decide +kernel
theorem dX5_addTour_118 : decode cX5_addTour 118 = .ok (.getfield 10, 3) := by decide +kernel
theorem dX5_addTour_121 : decode cX5_addTour 121 = .ok (.dup, 1) := by decide +kernel
theorem dX5_addTour_122 : decode cX5_addTour 122 = .ok (.getfield 108, 3) := by decide +kernel
theorem dX5_addTour_125 : decode cX5_addTour 125 = .ok (.iconst 1, 1) := by decide +kernel
theorem dX5_addTour_126 : decode cX5_addTour 126 = .ok (.iadd, 1) := by decide +kernel
theorem dX5_addTour_127 : decode cX5_addTour 127 = .ok (.putfield 108, 3) := by decide +kernel
theorem dX5_addTour_130 : decode cX5_addTour 130 = .ok (.iload 6, 2) := by decide +kernel
theorem dX5_addTour_132 : decode cX5_addTour 132 = .ok (.ireturn, 1) := by decide +kernel
theorem dX5_book_0 : decode cX5_book 0 = .ok (.aload_n 0, 1) := by decide +kernel
theorem dX5_book_1 : decode cX5_book 1 = .ok (.getfield 10, 3) := by decide +kernel
theorem dX5_book_4 : decode cX5_book 4 = .ok (.iload_n 1, 1) := by decide +kernel
theorem dX5_book_5 : decode cX5_book 5 = .ok (.invokevirtual 120, 3) := by decide +kernel
theorem dX5_book_8 : decode cX5_book 8 = .ok (.astore_n 3, 1) := by decide +kernel
theorem dX5_book_9 : decode cX5_book 9 = .ok (.aload_n 3, 1) := by decide +kernel
theorem dX5_book_10 : decode cX5_book 10 = .ok (.ifnonnull 5, 3) := by decide +kernel
theorem dX5_book_13 : decode cX5_book 13 = .ok (.iconst (-1), 1) := by decide +kernel
theorem dX5_book_14 : decode cX5_book 14 = .ok (.ireturn, 1) := by decide +kernel
theorem dX5_book_15 : decode cX5_book 15 = .ok (.iload_n 2, 1) := by decide +kernel
theorem dX5_book_16 : decode cX5_book 16 = .ok (.invokestatic 124, 3) := by decide +kernel
theorem dX5_book_19 : decode cX5_book 19 = .ok (.ifCond .ne 6, 3) := by decide +kernel
theorem dX5_book_22 : decode cX5_book 22 = .ok (.bipush (-2), 2) := by decide +kernel
theorem dX5_book_24 : decode cX5_book 24 = .ok (.ireturn, 1) := by decide +kernel
theorem dX5_book_25 : decode cX5_book 25 = .ok (.aload_n 3, 1) := by decide +kernel
theorem dX5_book_26 : decode cX5_book 26 = .ok (.getfield 127, 3) := by decide +kernel
theorem dX5_book_29 : decode cX5_book 29 = .ok (.ifCond .eq 6, 3) := by decide +kernel
theorem dX5_book_32 : decode cX5_book 32 = .ok (.bipush (-4), 2) := by decide +kernel
theorem dX5_book_34 : decode cX5_book 34 = .ok (.ireturn, 1) := by decide +kernel
theorem dX5_book_35 : decode cX5_book 35 = .ok (.aload_n 3, 1) := by decide +kernel
theorem dX5_book_36 : decode cX5_book 36 = .ok (.getfield 130, 3) := by decide +kernel
theorem dX5_book_39 : decode cX5_book 39 = .ok (.iload_n 2, 1) := by decide +kernel
theorem dX5_book_40 : decode cX5_book 40 = .ok (.iadd, 1) := by decide +kernel
theorem dX5_book_41 : decode cX5_book 41 = .ok (.bipush 12, 2) := by decide +kernel
theorem dX5_book_43 : decode cX5_book 43 = .ok (.if_icmp .le 6, 3) := by decide +kernel
theorem dX5_book_46 : decode cX5_book 46 = .ok (.bipush (-3), 2) := by decide +kernel
theorem dX5_book_48 : decode cX5_book 48 = .ok (.ireturn, 1) := by decide +kernel
theorem dX5_book_49 : decode cX5_book 49 = .ok (.aload_n 0, 1) := by decide +kernel
theorem dX5_book_50 : decode cX5_book 50 = .ok (.getfield 22, 3) := by decide +kernel
theorem dX5_book_53 : decode cX5_book 53 = .ok (.aload_n 0, 1) := by decide +kernel
theorem dX5_book_54 : decode cX5_book 54 = .ok (.getfield 10, 3) := by decide +kernel
theorem dX5_book_57 : decode cX5_book 57 = .ok (.invokevirtual 44, 3) := by decide +kernel
theorem dX5_book_60 : decode cX5_book 60 = .ok (.aload_n 3, 1) := by decide +kernel
theorem dX5_book_61 : decode cX5_book 61 = .ok (.getfield 133, 3) := by decide +kernel
theorem dX5_book_64 : decode cX5_book 64 = .ok (.iload_n 2, 1) := by decide +kernel
theorem dX5_book_65 : decode cX5_book 65 = .ok (.imul, 1) := by decide +kernel
theorem dX5_book_66 : decode cX5_book 66 = .ok (.istore 4, 2) := by decide +kernel
theorem dX5_book_68 : decode cX5_book 68 = .ok (.aload_n 3, 1) := by decide +kernel
theorem dX5_book_69 : decode cX5_book 69 = .ok (.dup, 1) := by decide +kernel
theorem dX5_book_70 : decode cX5_book 70 = .ok (.getfield 130, 3) := by decide +kernel
theorem dX5_book_73 : decode cX5_book 73 = .ok (.iload_n 2, 1) := by decide +kernel
theorem dX5_book_74 : decode cX5_book 74 = .ok (.iadd, 1) := by decide +kernel
theorem dX5_book_75 : decode cX5_book 75 = .ok (.putfield 130, 3) := by decide +kernel
theorem dX5_book_78 : decode cX5_book 78 = .ok (.aload_n 3, 1) := by decide +kernel
theorem dX5_book_79 : decode cX5_book 79 = .ok (.dup, 1) := by decide +kernel
theorem dX5_book_80 : decode cX5_book 80 = .ok (.getfield 136, 3) := by decide +kernel
theorem dX5_book_83 : decode cX5_book 83 = .ok (.iload 4, 2) := by decide +kernel
theorem dX5_book_85 : decode cX5_book 85 = .ok (.iadd, 1) := by decide +kernel
theorem dX5_book_86 : decode cX5_book 86 = .ok (.putfield 136, 3) := by decide +kernel
theorem dX5_book_89 : decode cX5_book 89 = .ok (.iload 4, 2) := by decide +kernel
theorem dX5_book_91 : decode cX5_book 91 = .ok (.ireturn, 1) := by decide +kernel
theorem dX5_leave_0 : decode cX5_leave 0 = .ok (.aload_n 0, 1) := by decide +kernel
theorem dX5_leave_1 : decode cX5_leave 1 = .ok (.getfield 10, 3) := by decide +kernel
theorem dX5_leave_4 : decode cX5_leave 4 = .ok (.iload_n 1, 1) := by decide +kernel
theorem dX5_leave_5 : decode cX5_leave 5 = .ok (.invokevirtual 120, 3) := by decide +kernel
theorem dX5_leave_8 : decode cX5_leave 8 = .ok (.astore_n 3, 1) := by decide +kernel
theorem dX5_leave_9 : decode cX5_leave 9 = .ok (.aload_n 3, 1) := by decide +kernel
theorem dX5_leave_10 : decode cX5_leave 10 = .ok (.ifnonnull 5, 3) := by decide +kernel
theorem dX5_leave_13 : decode cX5_leave 13 = .ok (.iconst (-1), 1) := by decide +kernel
theorem dX5_leave_14 : decode cX5_leave 14 = .ok (.ireturn, 1) := by decide +kernel
theorem dX5_leave_15 : decode cX5_leave 15 = .ok (.iload_n 2, 1) := by decide +kernel
theorem dX5_leave_16 : decode cX5_leave 16 = .ok (.invokestatic 124, 3) := by decide +kernel
theorem dX5_leave_19 : decode cX5_leave 19 = .ok (.ifCond .ne 6, 3) := by decide +kernel
theorem dX5_leave_22 : decode cX5_leave 22 = .ok (.bipush (-2), 2) := by decide +kernel
theorem dX5_leave_24 : decode cX5_leave 24 = .ok (.ireturn, 1) := by decide +kernel
theorem dX5_leave_25 : decode cX5_leave 25 = .ok (.aload_n 3, 1) := by decide +kernel
theorem dX5_leave_26 : decode cX5_leave 26 = .ok (.getfield 127, 3) := by decide +kernel
theorem dX5_leave_29 : decode cX5_leave 29 = .ok (.ifCond .ne 11, 3) := by decide +kernel
theorem dX5_leave_32 : decode cX5_leave 32 = .ok (.aload_n 3, 1) := by decide +kernel
theorem dX5_leave_33 : decode cX5_leave 33 = .ok (.getfield 130, 3) := by decide +kernel
theorem dX5_leave_36 : decode cX5_leave 36 = .ok (.iload_n 2, 1) := by decide +kernel
theorem dX5_leave_37 : decode cX5_leave 37 = .ok (.if_icmp .ge 6, 3) := by decide +kernel
theorem dX5_leave_40 : decode cX5_leave 40 = .ok (.bipush (-4), 2) := by decide +kernel
theorem dX5_leave_42 : decode cX5_leave 42 = .ok (.ireturn, 1) := by decide +kernel
theorem dX5_leave_43 : decode cX5_leave 43 = .ok (.aload_n 0, 1) := by decide +kernel
theorem dX5_leave_44 : decode cX5_leave 44 = .ok (.getfield 22, 3) := by decide +kernel
theorem dX5_leave_47 : decode cX5_leave 47 = .ok (.aload_n 0, 1) := by decide +kernel
theorem dX5_leave_48 : decode cX5_leave 48 = .ok (.getfield 10, 3) := by decide +kernel
theorem dX5_leave_51 : decode cX5_leave 51 = .ok (.invokevirtual 44, 3) := by decide +kernel
theorem dX5_leave_54 : decode cX5_leave 54 = .ok (.aload_n 3, 1) := by decide +kernel
theorem dX5_leave_55 : decode cX5_leave 55 = .ok (.iload_n 2, 1) := by decide +kernel
theorem dX5_leave_56 : decode cX5_leave 56 = .ok (.aload_n 0, 1) := by decide +kernel
theorem dX5_leave_57 : decode cX5_leave 57 = .ok (.getfield 10, 3) := by decide +kernel
theorem dX5_leave_60 : decode cX5_leave 60 = .ok (.getfield 100, 3) := by decide +kernel
theorem dX5_leave_63 : decode cX5_leave 63 = .ok (.invokevirtual 139, 3) := by decide +kernel
theorem dX5_leave_66 : decode cX5_leave 66 = .ok (.istore 4, 2) := by decide +kernel
theorem dX5_leave_68 : decode cX5_leave 68 = .ok (.aload_n 3, 1) := by decide +kernel
theorem dX5_leave_69 : decode cX5_leave 69 = .ok (.dup, 1) := by decide +kernel
theorem dX5_leave_70 : decode cX5_leave 70 = .ok (.getfield 130, 3) := by decide +kernel
theorem dX5_leave_73 : decode cX5_leave 73 = .ok (.iload_n 2, 1) := by decide +kernel
theorem dX5_leave_74 : decode cX5_leave 74 = .ok (.isub, 1) := by decide +kernel
theorem dX5_leave_75 : decode cX5_leave 75 = .ok (.putfield 130, 3) := by decide +kernel
theorem dX5_leave_78 : decode cX5_leave 78 = .ok (.aload_n 0, 1) := by decide +kernel
theorem dX5_leave_79 : decode cX5_leave 79 = .ok (.getfield 10, 3) := by decide +kernel
theorem dX5_leave_82 : decode cX5_leave 82 = .ok (.aload_n 3, 1) := by decide +kernel
theorem dX5_leave_83 : decode cX5_leave 83 = .ok (.iload 4, 2) := by decide +kernel
theorem dX5_leave_85 : decode cX5_leave 85 = .ok (.invokevirtual 143, 3) := by decide +kernel
theorem dX5_leave_88 : decode cX5_leave 88 = .ok (.iload 4, 2) := by decide +kernel
theorem dX5_leave_90 : decode cX5_leave 90 = .ok (.ireturn, 1) := by decide +kernel
theorem dX5_lead_0 : decode cX5_lead 0 = .ok (.aload_n 0, 1) := by decide +kernel
theorem dX5_lead_1 : decode cX5_lead 1 = .ok (.getfield 10, 3) := by decide +kernel
theorem dX5_lead_4 : decode cX5_lead 4 = .ok (.iload_n 2, 1) := by decide +kernel
theorem dX5_lead_5 : decode cX5_lead 5 = .ok (.invokevirtual 120, 3) := by decide +kernel
theorem dX5_lead_8 : decode cX5_lead 8 = .ok (.astore_n 3, 1) := by decide +kernel
theorem dX5_lead_9 : decode cX5_lead 9 = .ok (.aload_n 0, 1) := by decide +kernel
theorem dX5_lead_10 : decode cX5_lead 10 = .ok (.getfield 10, 3) := by decide +kernel
theorem dX5_lead_13 : decode cX5_lead 13 = .ok (.iload_n 1, 1) := by decide +kernel
theorem dX5_lead_14 : decode cX5_lead 14 = .ok (.invokevirtual 58, 3) := by decide +kernel
theorem dX5_lead_17 : decode cX5_lead 17 = .ok (.ifnull 7, 3) := by decide +kernel
theorem dX5_lead_20 : decode cX5_lead 20 = .ok (.aload_n 3, 1) := by decide +kernel
theorem dX5_lead_21 : decode cX5_lead 21 = .ok (.ifnonnull 5, 3) := by decide +kernel
theorem dX5_lead_24 : decode cX5_lead 24 = .ok (.iconst (-1), 1) := by decide +kernel
theorem dX5_lead_25 : decode cX5_lead 25 = .ok (.ireturn, 1) := by decide +kernel
theorem dX5_lead_26 : decode cX5_lead 26 = .ok (.aload_n 0, 1) := by decide +kernel
theorem dX5_lead_27 : decode cX5_lead 27 = .ok (.getfield 10, 3) := by decide +kernel
theorem dX5_lead_30 : decode cX5_lead 30 = .ok (.iload_n 1, 1) := by decide +kernel
theorem dX5_lead_31 : decode cX5_lead 31 = .ok (.aload_n 3, 1) := by decide +kernel
theorem dX5_lead_32 : decode cX5_lead 32 = .ok (.invokevirtual 147, 3) := by decide +kernel
theorem dX5_lead_35 : decode cX5_lead 35 = .ok (.ifCond .ne 6, 3) := by decide +kernel
theorem dX5_lead_38 : decode cX5_lead 38 = .ok (.bipush (-4), 2) := by decide +kernel
theorem dX5_lead_40 : decode cX5_lead 40 = .ok (.ireturn, 1) := by decide +kernel
theorem dX5_lead_41 : decode cX5_lead 41 = .ok (.aload_n 3, 1) := by decide +kernel
theorem dX5_lead_42 : decode cX5_lead 42 = .ok (.getfield 151, 3) := by decide +kernel
theorem dX5_lead_45 : decode cX5_lead 45 = .ok (.iconst 4, 1) := by decide +kernel
theorem dX5_lead_46 : decode cX5_lead 46 = .ok (.if_icmp .lt 6, 3) := by decide +kernel
theorem dX5_lead_49 : decode cX5_lead 49 = .ok (.bipush (-3), 2) := by decide +kernel
theorem dX5_lead_51 : decode cX5_lead 51 = .ok (.ireturn, 1) := by decide +kernel
theorem dX5_lead_52 : decode cX5_lead 52 = .ok (.aload_n 0, 1) := by decide +kernel
theorem dX5_lead_53 : decode cX5_lead 53 = .ok (.getfield 22, 3) := by decide +kernel
theorem dX5_lead_56 : decode cX5_lead 56 = .ok (.aload_n 0, 1) := by decide +kernel
theorem dX5_lead_57 : decode cX5_lead 57 = .ok (.getfield 10, 3) := by decide +kernel
theorem dX5_lead_60 : decode cX5_lead 60 = .ok (.invokevirtual 44, 3) := by decide +kernel
theorem dX5_lead_63 : decode cX5_lead 63 = .ok (.aload_n 3, 1) := by decide +kernel
theorem dX5_lead_64 : decode cX5_lead 64 = .ok (.iload_n 1, 1) := by decide +kernel
theorem dX5_lead_65 : decode cX5_lead 65 = .ok (.invokevirtual 153, 3) := by decide +kernel
theorem dX5_lead_68 : decode cX5_lead 68 = .ok (.aload_n 0, 1) := by decide +kernel
theorem dX5_lead_69 : decode cX5_lead 69 = .ok (.getfield 10, 3) := by decide +kernel
theorem dX5_lead_72 : decode cX5_lead 72 = .ok (.iload_n 1, 1) := by decide +kernel
theorem dX5_lead_73 : decode cX5_lead 73 = .ok (.aload_n 3, 1) := by decide +kernel
theorem dX5_lead_74 : decode cX5_lead 74 = .ok (.invokevirtual 157, 3) := by decide +kernel
theorem dX5_lead_77 : decode cX5_lead 77 = .ok (.ireturn, 1) := by decide +kernel
theorem dX5_release_0 : decode cX5_release 0 = .ok (.aload_n 0, 1) := by decide +kernel
theorem dX5_release_1 : decode cX5_release 1 = .ok (.getfield 10, 3) := by decide +kernel
theorem dX5_release_4 : decode cX5_release 4 = .ok (.iload_n 2, 1) := by decide +kernel
theorem dX5_release_5 : decode cX5_release 5 = .ok (.invokevirtual 120, 3) := by decide +kernel
theorem dX5_release_8 : decode cX5_release 8 = .ok (.astore_n 3, 1) := by decide +kernel
theorem dX5_release_9 : decode cX5_release 9 = .ok (.aload_n 0, 1) := by decide +kernel
theorem dX5_release_10 : decode cX5_release 10 = .ok (.getfield 10, 3) := by decide +kernel
theorem dX5_release_13 : decode cX5_release 13 = .ok (.iload_n 1, 1) := by decide +kernel
theorem dX5_release_14 : decode cX5_release 14 = .ok (.invokevirtual 58, 3) := by decide +kernel
theorem dX5_release_17 : decode cX5_release 17 = .ok (.ifnull 7, 3) := by decide +kernel
theorem dX5_release_20 : decode cX5_release 20 = .ok (.aload_n 3, 1) := by decide +kernel
theorem dX5_release_21 : decode cX5_release 21 = .ok (.ifnonnull 5, 3) := by decide +kernel
theorem dX5_release_24 : decode cX5_release 24 = .ok (.iconst (-1), 1) := by decide +kernel
theorem dX5_release_25 : decode cX5_release 25 = .ok (.ireturn, 1) := by decide +kernel
theorem dX5_release_26 : decode cX5_release 26 = .ok (.aload_n 3, 1) := by decide +kernel
theorem dX5_release_27 : decode cX5_release 27 = .ok (.getfield 127, 3) := by decide +kernel
theorem dX5_release_30 : decode cX5_release 30 = .ok (.ifCond .eq 6, 3) := by decide +kernel
theorem dX5_release_33 : decode cX5_release 33 = .ok (.bipush (-4), 2) := by decide +kernel
theorem dX5_release_35 : decode cX5_release 35 = .ok (.ireturn, 1) := by decide +kernel
theorem dX5_release_36 : decode cX5_release 36 = .ok (.aload_n 3, 1) := by decide +kernel
theorem dX5_release_37 : decode cX5_release 37 = .ok (.iload_n 1, 1) := by decide +kernel
theorem dX5_release_38 : decode cX5_release 38 = .ok (.invokevirtual 161, 3) := by decide +kernel
theorem dX5_release_41 : decode cX5_release 41 = .ok (.ifCond .ne 6, 3) := by decide +kernel
theorem dX5_release_44 : decode cX5_release 44 = .ok (.bipush (-5), 2) := by decide +kernel
theorem dX5_release_46 : decode cX5_release 46 = .ok (.ireturn, 1) := by decide +kernel
theorem dX5_release_47 : decode cX5_release 47 = .ok (.aload_n 0, 1) := by decide +kernel
theorem dX5_release_48 : decode cX5_release 48 = .ok (.getfield 22, 3) := by decide +kernel
theorem dX5_release_51 : decode cX5_release 51 = .ok (.aload_n 0, 1) := by decide +kernel
theorem dX5_release_52 : decode cX5_release 52 = .ok (.getfield 10, 3) := by decide +kernel
theorem dX5_release_55 : decode cX5_release 55 = .ok (.invokevirtual 44, 3) := by decide +kernel
theorem dX5_release_58 : decode cX5_release 58 = .ok (.aload_n 3, 1) := by decide +kernel
theorem dX5_release_59 : decode cX5_release 59 = .ok (.iload_n 1, 1) := by decide +kernel
theorem dX5_release_60 : decode cX5_release 60 = .ok (.invokevirtual 164, 3) := by decide +kernel
theorem dX5_release_63 : decode cX5_release 63 = .ok (.aload_n 0, 1) := by decide +kernel
theorem dX5_release_64 : decode cX5_release 64 = .ok (.getfield 10, 3) := by decide +kernel
theorem dX5_release_67 : decode cX5_release 67 = .ok (.aload_n 3, 1) := by decide +kernel
theorem dX5_release_68 : decode cX5_release 68 = .ok (.aload_n 3, 1) := by decide +kernel
theorem dX5_release_69 : decode cX5_release 69 = .ok (.getfield 151, 3) := by decide +kernel
theorem dX5_release_72 : decode cX5_release 72 = .ok (.invokevirtual 167, 3) := by decide +kernel
theorem dX5_release_75 : decode cX5_release 75 = .ok (.ireturn, 1) := by decide +kernel
theorem dX5_merge_0 : decode cX5_merge 0 = .ok (.aload_n 0, 1) := by decide +kernel
theorem dX5_merge_1 : decode cX5_merge 1 = .ok (.getfield 10, 3) := by decide +kernel
theorem dX5_merge_4 : decode cX5_merge 4 = .ok (.iload_n 1, 1) := by decide +kernel
theorem dX5_merge_5 : decode cX5_merge 5 = .ok (.invokevirtual 120, 3) := by decide +kernel
theorem dX5_merge_8 : decode cX5_merge 8 = .ok (.astore_n 3, 1) := by decide +kernel
theorem dX5_merge_9 : decode cX5_merge 9 = .ok (.aload_n 0, 1) := by decide +kernel
theorem dX5_merge_10 : decode cX5_merge 10 = .ok (.getfield 10, 3) := by decide +kernel
theorem dX5_merge_13 : decode cX5_merge 13 = .ok (.iload_n 2, 1) := by decide +kernel
theorem dX5_merge_14 : decode cX5_merge 14 = .ok (.invokevirtual 120, 3) := by decide +kernel
theorem dX5_merge_17 : decode cX5_merge 17 = .ok (.astore 4, 2) := by decide +kernel
theorem dX5_merge_19 : decode cX5_merge 19 = .ok (.aload_n 3, 1) := by decide +kernel
theorem dX5_merge_20 : decode cX5_merge 20 = .ok (.ifnull 8, 3) := by decide +kernel
theorem dX5_merge_23 : decode cX5_merge 23 = .ok (.aload 4, 2) := by decide +kernel
theorem dX5_merge_25 : decode cX5_merge 25 = .ok (.ifnonnull 5, 3) := by decide +kernel
theorem dX5_merge_28 : decode cX5_merge 28 = .ok (.iconst (-1), 1) := by decide +kernel
theorem dX5_merge_29 : decode cX5_merge 29 = .ok (.ireturn, 1) := by decide +kernel
theorem dX5_merge_30 : decode cX5_merge 30 = .ok (.iload_n 1, 1) := by decide +kernel
theorem dX5_merge_31 : decode cX5_merge 31 = .ok (.iload_n 2, 1) := by decide +kernel
theorem dX5_merge_32 : decode cX5_merge 32 = .ok (.if_icmp .ne 6, 3) := by decide +kernel
theorem dX5_merge_35 : decode cX5_merge 35 = .ok (.bipush (-2), 2) := by decide +kernel
theorem dX5_merge_37 : decode cX5_merge 37 = .ok (.ireturn, 1) := by decide +kernel
theorem dX5_merge_38 : decode cX5_merge 38 = .ok (.aload_n 3, 1) := by decide +kernel
theorem dX5_merge_39 : decode cX5_merge 39 = .ok (.aload 4, 2) := by decide +kernel
theorem dX5_merge_41 : decode cX5_merge 41 = .ok (.invokevirtual 171, 3) := by decide +kernel
theorem dX5_merge_44 : decode cX5_merge 44 = .ok (.ifCond .ne 6, 3) := by decide +kernel
theorem dX5_merge_47 : decode cX5_merge 47 = .ok (.bipush (-4), 2) := by decide +kernel
theorem dX5_merge_49 : decode cX5_merge 49 = .ok (.ireturn, 1) := by decide +kernel
theorem dX5_merge_50 : decode cX5_merge 50 = .ok (.aload_n 0, 1) := by decide +kernel
theorem dX5_merge_51 : decode cX5_merge 51 = .ok (.getfield 22, 3) := by decide +kernel
theorem dX5_merge_54 : decode cX5_merge 54 = .ok (.aload_n 0, 1) := by decide +kernel
theorem dX5_merge_55 : decode cX5_merge 55 = .ok (.getfield 10, 3) := by decide +kernel
theorem dX5_merge_58 : decode cX5_merge 58 = .ok (.invokevirtual 44, 3) := by decide +kernel
theorem dX5_merge_61 : decode cX5_merge 61 = .ok (.aload 4, 2) := by decide +kernel
theorem dX5_merge_63 : decode cX5_merge 63 = .ok (.getfield 133, 3) := by decide +kernel
theorem dX5_merge_66 : decode cX5_merge 66 = .ok (.aload_n 3, 1) := by decide +kernel
theorem dX5_merge_67 : decode cX5_merge 67 = .ok (.getfield 130, 3) := by decide +kernel
theorem dX5_merge_70 : decode cX5_merge 70 = .ok (.imul, 1) := by decide +kernel
theorem dX5_merge_71 : decode cX5_merge 71 = .ok (.istore 5, 2) := by decide +kernel
theorem dX5_merge_73 : decode cX5_merge 73 = .ok (.aload_n 3, 1) := by decide +kernel
theorem dX5_merge_74 : decode cX5_merge 74 = .ok (.getfield 136, 3) := by decide +kernel
theorem dX5_merge_77 : decode cX5_merge 77 = .ok (.iload 5, 2) := by decide +kernel
theorem dX5_merge_79 : decode cX5_merge 79 = .ok (.if_icmp .le 13, 3) := by decide +kernel
theorem dX5_merge_82 : decode cX5_merge 82 = .ok (.aload_n 3, 1) := by decide +kernel
theorem dX5_merge_83 : decode cX5_merge 83 = .ok (.getfield 136, 3) := by decide +kernel
theorem dX5_merge_86 : decode cX5_merge 86 = .ok (.iload 5, 2) := by decide +kernel
theorem dX5_merge_88 : decode cX5_merge 88 = .ok (.isub, 1) := by decide +kernel
theorem dX5_merge_89 : decode cX5_merge 89 = .ok (.goto 4, 3) := by decide +kernel
theorem dX5_merge_92 : decode cX5_merge 92 = .ok (.iconst 0, 1) := by decide +kernel
theorem dX5_merge_93 : decode cX5_merge 93 = .ok (.istore 6, 2) := by decide +kernel
theorem dX5_merge_95 : decode cX5_merge 95 = .ok (.aload_n 0, 1) := by decide +kernel
theorem dX5_merge_96 : decode cX5_merge 96 = .ok (.getfield 10, 3) := by decide +kernel
theorem dX5_merge_99 : decode cX5_merge 99 = .ok (.aload_n 3, 1) := by decide +kernel
theorem dX5_merge_100 : decode cX5_merge 100 = .ok (.iload 6, 2) := by decide +kernel
theorem dX5_merge_102 : decode cX5_merge 102 = .ok (.invokevirtual 143, 3) := by decide +kernel
theorem dX5_merge_105 : decode cX5_merge 105 = .ok (.aload_n 3, 1) := by decide +kernel
theorem dX5_merge_106 : decode cX5_merge 106 = .ok (.aload 4, 2) := by decide +kernel
theorem dX5_merge_108 : decode cX5_merge 108 = .ok (.invokevirtual 175, 3) := by decide +kernel
theorem dX5_merge_111 : decode cX5_merge 111 = .ok (.iload 6, 2) := by decide +kernel
theorem dX5_merge_113 : decode cX5_merge 113 = .ok (.ireturn, 1) := by decide +kernel
theorem dX5_cancel_0 : decode cX5_cancel 0 = .ok (.aload_n 0, 1) := by decide +kernel
theorem dX5_cancel_1 : decode cX5_cancel 1 = .ok (.getfield 10, 3) := by decide +kernel
theorem dX5_cancel_4 : decode cX5_cancel 4 = .ok (.iload_n 1, 1) := by decide +kernel
theorem dX5_cancel_5 : decode cX5_cancel 5 = .ok (.invokevirtual 120, 3) := by decide +kernel
theorem dX5_cancel_8 : decode cX5_cancel 8 = .ok (.astore_n 2, 1) := by decide +kernel
theorem dX5_cancel_9 : decode cX5_cancel 9 = .ok (.aload_n 2, 1) := by decide +kernel
theorem dX5_cancel_10 : decode cX5_cancel 10 = .ok (.ifnonnull 5, 3) := by decide +kernel
theorem dX5_cancel_13 : decode cX5_cancel 13 = .ok (.iconst (-1), 1) := by decide +kernel
theorem dX5_cancel_14 : decode cX5_cancel 14 = .ok (.ireturn, 1) := by decide +kernel
theorem dX5_cancel_15 : decode cX5_cancel 15 = .ok (.aload_n 2, 1) := by decide +kernel
theorem dX5_cancel_16 : decode cX5_cancel 16 = .ok (.getfield 127, 3) := by decide +kernel
theorem dX5_cancel_19 : decode cX5_cancel 19 = .ok (.ifCond .eq 6, 3) := by decide +kernel
theorem dX5_cancel_22 : decode cX5_cancel 22 = .ok (.bipush (-4), 2) := by decide +kernel
theorem dX5_cancel_24 : decode cX5_cancel 24 = .ok (.ireturn, 1) := by decide +kernel
theorem dX5_cancel_25 : decode cX5_cancel 25 = .ok (.aload_n 0, 1) := by decide +kernel
theorem dX5_cancel_26 : decode cX5_cancel 26 = .ok (.getfield 22, 3) := by decide +kernel
theorem dX5_cancel_29 : decode cX5_cancel 29 = .ok (.aload_n 0, 1) := by decide +kernel
theorem dX5_cancel_30 : decode cX5_cancel 30 = .ok (.getfield 10, 3) := by decide +kernel
theorem dX5_cancel_33 : decode cX5_cancel 33 = .ok (.invokevirtual 44, 3) := by decide +kernel
theorem dX5_cancel_36 : decode cX5_cancel 36 = .ok (.aload_n 0, 1) := by decide +kernel
theorem dX5_cancel_37 : decode cX5_cancel 37 = .ok (.getfield 10, 3) := by decide +kernel
theorem dX5_cancel_40 : decode cX5_cancel 40 = .ok (.aload_n 2, 1) := by decide +kernel
theorem dX5_cancel_41 : decode cX5_cancel 41 = .ok (.iconst 4, 1) := by decide +kernel
theorem dX5_cancel_42 : decode cX5_cancel 42 = .ok (.invokevirtual 179, 3) := by decide +kernel
theorem dX5_cancel_45 : decode cX5_cancel 45 = .ok (.ireturn, 1) := by decide +kernel
theorem dX5_pass_0 : decode cX5_pass 0 = .ok (.iload_n 1, 1) := by decide +kernel
theorem dX5_pass_1 : decode cX5_pass 1 = .ok (.iconst 1, 1) := by decide +kernel
theorem dX5_pass_2 : decode cX5_pass 2 = .ok (.if_icmp .lt 9, 3) := by decide +kernel
theorem dX5_pass_5 : decode cX5_pass 5 = .ok (.iload_n 1, 1) := by decide +kernel
theorem dX5_pass_6 : decode cX5_pass 6 = .ok (.bipush 30, 2) := by decide +kernel
theorem dX5_pass_8 : decode cX5_pass 8 = .ok (.if_icmp .le 6, 3) := by decide +kernel
theorem dX5_pass_11 : decode cX5_pass 11 = .ok (.bipush (-2), 2) := by decide +kernel
theorem dX5_pass_13 : decode cX5_pass 13 = .ok (.ireturn, 1) := by decide +kernel
theorem dX5_pass_14 : decode cX5_pass 14 = .ok (.aload_n 0, 1) := by decide +kernel
theorem dX5_pass_15 : decode cX5_pass 15 = .ok (.getfield 10, 3) := by decide +kernel
theorem dX5_pass_18 : decode cX5_pass 18 = .ok (.getfield 100, 3) := by decide +kernel
theorem dX5_pass_21 : decode cX5_pass 21 = .ok (.iload_n 1, 1) := by decide +kernel
theorem dX5_pass_22 : decode cX5_pass 22 = .ok (.iadd, 1) := by decide +kernel
theorem dX5_pass_23 : decode cX5_pass 23 = .ok (.sipush 1000, 3) := by decide +kernel
theorem dX5_pass_26 : decode cX5_pass 26 = .ok (.if_icmp .le 6, 3) := by decide +kernel
theorem dX5_pass_29 : decode cX5_pass 29 = .ok (.bipush (-4), 2) := by decide +kernel
theorem dX5_pass_31 : decode cX5_pass 31 = .ok (.ireturn, 1) := by decide +kernel
theorem dX5_pass_32 : decode cX5_pass 32 = .ok (.aload_n 0, 1) := by decide +kernel
theorem dX5_pass_33 : decode cX5_pass 33 = .ok (.getfield 22, 3) := by decide +kernel
theorem dX5_pass_36 : decode cX5_pass 36 = .ok (.aload_n 0, 1) := by decide +kernel
theorem dX5_pass_37 : decode cX5_pass 37 = .ok (.getfield 10, 3) := by decide +kernel
theorem dX5_pass_40 : decode cX5_pass 40 = .ok (.invokevirtual 44, 3) := by decide +kernel
theorem dX5_pass_43 : decode cX5_pass 43 = .ok (.iconst 0, 1) := by decide +kernel
theorem dX5_pass_44 : decode cX5_pass 44 = .ok (.istore_n 2, 1) := by decide +kernel
theorem dX5_pass_45 : decode cX5_pass 45 = .ok (.iconst 0, 1) := by decide +kernel
theorem dX5_pass_46 : decode cX5_pass 46 = .ok (.istore_n 3, 1) := by decide +kernel
theorem dX5_pass_47 : decode cX5_pass 47 = .ok (.iload_n 3, 1) := by decide +kernel
theorem dX5_pass_48 : decode cX5_pass 48 = .ok (.iload_n 1, 1) := by decide +kernel
theorem dX5_pass_49 : decode cX5_pass 49 = .ok (.if_icmp .ge 19, 3) := by decide +kernel
theorem dX5_pass_52 : decode cX5_pass 52 = .ok (.iload_n 2, 1) := by decide +kernel
theorem dX5_pass_53 : decode cX5_pass 53 = .ok (.aload_n 0, 1) := by decide +kernel
theorem dX5_pass_54 : decode cX5_pass 54 = .ok (.getfield 10, 3) := by decide +kernel
theorem dX5_pass_57 : decode cX5_pass 57 = .ok (.invokevirtual 182, 3) := by decide +kernel
theorem dX5_pass_60 : decode cX5_pass 60 = .ok (.iadd, 1) := by decide +kernel
theorem dX5_pass_61 : decode cX5_pass 61 = .ok (.istore_n 2, 1) := by decide +kernel
theorem dX5_pass_62 : decode cX5_pass 62 = .ok (.iinc 3 1, 3) := by decide +kernel
theorem dX5_pass_65 : decode cX5_pass 65 = .ok (.goto (-18), 3) := by decide +kernel
theorem dX5_pass_68 : decode cX5_pass 68 = .ok (.iload_n 2, 1) := by decide +kernel
theorem dX5_pass_69 : decode cX5_pass 69 = .ok (.ireturn, 1) := by decide +kernel
theorem dX5_type_0 : decode cX5_type 0 = .ok (.aload_n 0, 1) := by decide +kernel
theorem dX5_type_1 : decode cX5_type 1 = .ok (.getfield 29, 3) := by decide +kernel
theorem dX5_type_4 : decode cX5_type 4 = .ok (.getfield 186, 3) := by decide +kernel
theorem dX5_type_7 : decode cX5_type 7 = .ok (.bipush 40, 2) := by decide +kernel
theorem dX5_type_9 : decode cX5_type 9 = .ok (.if_icmp .lt 6, 3) := by decide +kernel
theorem dX5_type_12 : decode cX5_type 12 = .ok (.bipush (-3), 2) := by decide +kernel
theorem dX5_type_14 : decode cX5_type 14 = .ok (.ireturn, 1) := by decide +kernel
theorem dX5_type_15 : decode cX5_type 15 = .ok (.aload_n 0, 1) := by decide +kernel
theorem dX5_type_16 : decode cX5_type 16 = .ok (.getfield 29, 3) := by decide +kernel
theorem dX5_type_19 : decode cX5_type 19 = .ok (.iload_n 1, 1) := by decide +kernel
theorem dX5_type_20 : decode cX5_type 20 = .ok (.invokevirtual 189, 3) := by decide +kernel
theorem dX5_type_23 : decode cX5_type 23 = .ok (.aload_n 0, 1) := by decide +kernel
theorem dX5_type_24 : decode cX5_type 24 = .ok (.getfield 29, 3) := by decide +kernel
theorem dX5_type_27 : decode cX5_type 27 = .ok (.getfield 186, 3) := by decide +kernel
theorem dX5_type_30 : decode cX5_type 30 = .ok (.ireturn, 1) := by decide +kernel
theorem dX5_clearText_0 : decode cX5_clearText 0 = .ok (.aload_n 0, 1) := by decide +kernel
theorem dX5_clearText_1 : decode cX5_clearText 1 = .ok (.getfield 29, 3) := by decide +kernel
theorem dX5_clearText_4 : decode cX5_clearText 4 = .ok (.getfield 186, 3) := by decide +kernel
theorem dX5_clearText_7 : decode cX5_clearText 7 = .ok (.istore_n 1, 1) := by decide +kernel
theorem dX5_clearText_8 : decode cX5_clearText 8 = .ok (.aload_n 0, 1) := by decide +kernel
theorem dX5_clearText_9 : decode cX5_clearText 9 = .ok (.getfield 29, 3) := by decide +kernel
theorem dX5_clearText_12 : decode cX5_clearText 12 = .ok (.iconst 0, 1) := by decide +kernel
theorem dX5_clearText_13 : decode cX5_clearText 13 = .ok (.putfield 186, 3) := by decide +kernel
theorem dX5_clearText_16 : decode cX5_clearText 16 = .ok (.iload_n 1, 1) := by decide +kernel
theorem dX5_clearText_17 : decode cX5_clearText 17 = .ok (.ireturn, 1) := by decide +kernel
theorem dX5_perform_0 : decode cX5_perform 0 = .ok (.aload_n 0, 1) := by decide +kernel
theorem dX5_perform_1 : decode cX5_perform 1 = .ok (.getfield 29, 3) := by decide +kernel
theorem dX5_perform_4 : decode cX5_perform 4 = .ok (.invokevirtual 193, 3) := by decide +kernel
theorem dX5_perform_7 : decode cX5_perform 7 = .ok (.istore_n 1, 1) := by decide +kernel
theorem dX5_perform_8 : decode cX5_perform 8 = .ok (.iload_n 1, 1) := by decide +kernel
theorem dX5_perform_9 : decode cX5_perform 9 = .ok (.iconst (-1), 1) := by decide +kernel
theorem dX5_perform_10 : decode cX5_perform 10 = .ok (.if_icmp .eq 8, 3) := by decide +kernel
theorem dX5_perform_13 : decode cX5_perform 13 = .ok (.bipush (-100), 2) := by decide +kernel
theorem dX5_perform_15 : decode cX5_perform 15 = .ok (.iload_n 1, 1) := by decide +kernel
theorem dX5_perform_16 : decode cX5_perform 16 = .ok (.isub, 1) := by decide +kernel
theorem dX5_perform_17 : decode cX5_perform 17 = .ok (.ireturn, 1) := by decide +kernel
theorem dX5_perform_18 : decode cX5_perform 18 = .ok (.aload_n 0, 1) := by decide +kernel
theorem dX5_perform_19 : decode cX5_perform 19 = .ok (.getfield 29, 3) := by decide +kernel
theorem dX5_perform_22 : decode cX5_perform 22 = .ok (.getfield 196, 3) := by decide +kernel
theorem dX5_perform_25 : decode cX5_perform 25 = .ok (.tableswitch 111 1 5 #[35, 54, 73, 111, 92], 35) := by decide +kernel
theorem dX5_perform_60 : decode cX5_perform 60 = .ok (.aload_n 0, 1) := by decide +kernel
theorem dX5_perform_61 : decode cX5_perform 61 = .ok (.aload_n 0, 1) := by decide +kernel
theorem dX5_perform_62 : decode cX5_perform 62 = .ok (.getfield 29, 3) := by decide +kernel
theorem dX5_perform_65 : decode cX5_perform 65 = .ok (.getfield 199, 3) := by decide +kernel
theorem dX5_perform_68 : decode cX5_perform 68 = .ok (.aload_n 0, 1) := by decide +kernel
theorem dX5_perform_69 : decode cX5_perform 69 = .ok (.getfield 29, 3) := by decide +kernel
theorem dX5_perform_72 : decode cX5_perform 72 = .ok (.getfield 202, 3) := by decide +kernel
theorem dX5_perform_75 : decode cX5_perform 75 = .ok (.invokevirtual 205, 3) := by decide +kernel
theorem dX5_perform_78 : decode cX5_perform 78 = .ok (.ireturn, 1) := by decide +kernel
theorem dX5_perform_79 : decode cX5_perform 79 = .ok (.aload_n 0, 1) := by decide +kernel
theorem dX5_perform_80 : decode cX5_perform 80 = .ok (.aload_n 0, 1) := by decide +kernel
theorem dX5_perform_81 : decode cX5_perform 81 = .ok (.getfield 29, 3) := by decide +kernel
theorem dX5_perform_84 : decode cX5_perform 84 = .ok (.getfield 199, 3) := by decide +kernel
theorem dX5_perform_87 : decode cX5_perform 87 = .ok (.aload_n 0, 1) := by decide +kernel
theorem dX5_perform_88 : decode cX5_perform 88 = .ok (.getfield 29, 3) := by decide +kernel
theorem dX5_perform_91 : decode cX5_perform 91 = .ok (.getfield 202, 3) := by decide +kernel
theorem dX5_perform_94 : decode cX5_perform 94 = .ok (.invokevirtual 208, 3) := by decide +kernel
theorem dX5_perform_97 : decode cX5_perform 97 = .ok (.ireturn, 1) := by decide +kernel
theorem dX5_perform_98 : decode cX5_perform 98 = .ok (.aload_n 0, 1) := by decide +kernel
theorem dX5_perform_99 : decode cX5_perform 99 = .ok (.aload_n 0, 1) := by decide +kernel
theorem dX5_perform_100 : decode cX5_perform 100 = .ok (.getfield 29, 3) := by decide +kernel
theorem dX5_perform_103 : decode cX5_perform 103 = .ok (.getfield 199, 3) := by decide +kernel
theorem dX5_perform_106 : decode cX5_perform 106 = .ok (.aload_n 0, 1) := by decide +kernel
theorem dX5_perform_107 : decode cX5_perform 107 = .ok (.getfield 29, 3) := by decide +kernel
theorem dX5_perform_110 : decode cX5_perform 110 = .ok (.getfield 202, 3) := by decide +kernel
theorem dX5_perform_113 : decode cX5_perform 113 = .ok (.invokevirtual 211, 3) := by decide +kernel
theorem dX5_perform_116 : decode cX5_perform 116 = .ok (.ireturn, 1) := by decide +kernel
theorem dX5_perform_117 : decode cX5_perform 117 = .ok (.aload_n 0, 1) := by decide +kernel
theorem dX5_perform_118 : decode cX5_perform 118 = .ok (.aload_n 0, 1) := by decide +kernel
theorem dX5_perform_119 : decode cX5_perform 119 = .ok (.getfield 29, 3) := by decide +kernel
theorem dX5_perform_122 : decode cX5_perform 122 = .ok (.getfield 199, 3) := by decide +kernel
theorem dX5_perform_125 : decode cX5_perform 125 = .ok (.aload_n 0, 1) := by decide +kernel
theorem dX5_perform_126 : decode cX5_perform 126 = .ok (.getfield 29, 3) := by decide +kernel
theorem dX5_perform_129 : decode cX5_perform 129 = .ok (.getfield 202, 3) := by decide +kernel
theorem dX5_perform_132 : decode cX5_perform 132 = .ok (.invokevirtual 214, 3) := by decide +kernel
theorem dX5_perform_135 : decode cX5_perform 135 = .ok (.ireturn, 1) := by decide +kernel
theorem dX5_perform_136 : decode cX5_perform 136 = .ok (.aload_n 0, 1) := by decide +kernel
theorem dX5_perform_137 : decode cX5_perform 137 = .ok (.aload_n 0, 1) := by decide +kernel
theorem dX5_perform_138 : decode cX5_perform 138 = .ok (.getfield 29, 3) := by decide +kernel
theorem dX5_perform_141 : decode cX5_perform 141 = .ok (.getfield 199, 3) := by decide +kernel
theorem dX5_perform_144 : decode cX5_perform 144 = .ok (.invokevirtual 217, 3) := by decide +kernel
theorem dX5_perform_147 : decode cX5_perform 147 = .ok (.ireturn, 1) := by decide +kernel
theorem dX5_undo_0 : decode cX5_undo 0 = .ok (.aload_n 0, 1) := by decide +kernel
theorem dX5_undo_1 : decode cX5_undo 1 = .ok (.getfield 22, 3) := by decide +kernel
theorem dX5_undo_4 : decode cX5_undo 4 = .ok (.getfield 221, 3) := by decide +kernel
theorem dX5_undo_7 : decode cX5_undo 7 = .ok (.ifCond .ne 6, 3) := by decide +kernel
theorem dX5_undo_10 : decode cX5_undo 10 = .ok (.bipush (-5), 2) := by decide +kernel
theorem dX5_undo_12 : decode cX5_undo 12 = .ok (.ireturn, 1) := by decide +kernel
theorem dX5_undo_13 : decode cX5_undo 13 = .ok (.aload_n 0, 1) := by decide +kernel
theorem dX5_undo_14 : decode cX5_undo 14 = .ok (.getfield 22, 3) := by decide +kernel
theorem dX5_undo_17 : decode cX5_undo 17 = .ok (.aload_n 0, 1) := by decide +kernel
theorem dX5_undo_18 : decode cX5_undo 18 = .ok (.getfield 10, 3) := by decide +kernel
theorem dX5_undo_21 : decode cX5_undo 21 = .ok (.invokevirtual 224, 3) := by decide +kernel
theorem dX5_undo_24 : decode cX5_undo 24 = .ok (.aload_n 0, 1) := by decide +kernel
theorem dX5_undo_25 : decode cX5_undo 25 = .ok (.getfield 22, 3) := by decide +kernel
theorem dX5_undo_28 : decode cX5_undo 28 = .ok (.getfield 221, 3) := by decide +kernel
theorem dX5_undo_31 : decode cX5_undo 31 = .ok (.ireturn, 1) := by decide +kernel
theorem dX5_keep_0 : decode cX5_keep 0 = .ok (.aload_n 0, 1) := by decide +kernel
theorem dX5_keep_1 : decode cX5_keep 1 = .ok (.getfield 16, 3) := by decide +kernel
theorem dX5_keep_4 : decode cX5_keep 4 = .ok (.aload_n 0, 1) := by decide +kernel
theorem dX5_keep_5 : decode cX5_keep 5 = .ok (.getfield 10, 3) := by decide +kernel
theorem dX5_keep_8 : decode cX5_keep 8 = .ok (.invokevirtual 227, 3) := by decide +kernel
theorem dX5_keep_11 : decode cX5_keep 11 = .ok (.aload_n 0, 1) := by decide +kernel
theorem dX5_keep_12 : decode cX5_keep 12 = .ok (.iconst 1, 1) := by decide +kernel
theorem dX5_keep_13 : decode cX5_keep 13 = .ok (.putfield 230, 3) := by decide +kernel
theorem dX5_keep_16 : decode cX5_keep 16 = .ok (.aload_n 0, 1) := by decide +kernel
theorem dX5_keep_17 : decode cX5_keep 17 = .ok (.getfield 10, 3) := by decide +kernel
theorem dX5_keep_20 : decode cX5_keep 20 = .ok (.getfield 100, 3) := by decide +kernel
theorem dX5_keep_23 : decode cX5_keep 23 = .ok (.ireturn, 1) := by decide +kernel
theorem dX5_restore_0 : decode cX5_restore 0 = .ok (.aload_n 0, 1) := by decide +kernel
theorem dX5_restore_1 : decode cX5_restore 1 = .ok (.getfield 230, 3) := by decide +kernel
theorem dX5_restore_4 : decode cX5_restore 4 = .ok (.ifCond .ne 6, 3) := by decide +kernel
theorem dX5_restore_7 : decode cX5_restore 7 = .ok (.bipush (-5), 2) := by decide +kernel
theorem dX5_restore_9 : decode cX5_restore 9 = .ok (.ireturn, 1) := by decide +kernel
theorem dX5_restore_10 : decode cX5_restore 10 = .ok (.aload_n 0, 1) := by decide +kernel
theorem dX5_restore_11 : decode cX5_restore 11 = .ok (.getfield 22, 3) := by decide +kernel
theorem dX5_restore_14 : decode cX5_restore 14 = .ok (.aload_n 0, 1) := by decide +kernel
theorem dX5_restore_15 : decode cX5_restore 15 = .ok (.getfield 10, 3) := by decide +kernel
theorem dX5_restore_18 : decode cX5_restore 18 = .ok (.invokevirtual 44, 3) := by decide +kernel
theorem dX5_restore_21 : decode cX5_restore 21 = .ok (.aload_n 0, 1) := by decide +kernel
theorem dX5_restore_22 : decode cX5_restore 22 = .ok (.getfield 10, 3) := by decide +kernel
theorem dX5_restore_25 : decode cX5_restore 25 = .ok (.aload_n 0, 1) := by decide +kernel
theorem dX5_restore_26 : decode cX5_restore 26 = .ok (.getfield 16, 3) := by decide +kernel
theorem dX5_restore_29 : decode cX5_restore 29 = .ok (.invokevirtual 227, 3) := by decide +kernel
theorem dX5_restore_32 : decode cX5_restore 32 = .ok (.aload_n 0, 1) := by decide +kernel
theorem dX5_restore_33 : decode cX5_restore 33 = .ok (.getfield 10, 3) := by decide +kernel
theorem dX5_restore_36 : decode cX5_restore 36 = .ok (.getfield 100, 3) := by decide +kernel
theorem dX5_restore_39 : decode cX5_restore 39 = .ok (.ireturn, 1) := by decide +kernel
theorem dX5_guide_0 : decode cX5_guide 0 = .ok (.aload_n 0, 1) := by decide +kernel
theorem dX5_guide_1 : decode cX5_guide 1 = .ok (.getfield 10, 3) := by decide +kernel
theorem dX5_guide_4 : decode cX5_guide 4 = .ok (.iload_n 1, 1) := by decide +kernel
theorem dX5_guide_5 : decode cX5_guide 5 = .ok (.invokevirtual 58, 3) := by decide +kernel
theorem dX5_guide_8 : decode cX5_guide 8 = .ok (.astore_n 3, 1) := by decide +kernel
theorem dX5_guide_9 : decode cX5_guide 9 = .ok (.aload_n 3, 1) := by decide +kernel
theorem dX5_guide_10 : decode cX5_guide 10 = .ok (.ifnonnull 5, 3) := by decide +kernel
theorem dX5_guide_13 : decode cX5_guide 13 = .ok (.iconst (-1), 1) := by decide +kernel
theorem dX5_guide_14 : decode cX5_guide 14 = .ok (.ireturn, 1) := by decide +kernel
theorem dX5_guide_15 : decode cX5_guide 15 = .ok (.iload_n 2, 1) := by decide +kernel
theorem dX5_guide_16 : decode cX5_guide 16 = .ok (.tableswitch 89 0 5 #[40, 45, 50, 70, 79, 84], 40) := by decide +kernel
theorem dX5_guide_56 : decode cX5_guide 56 = .ok (.aload_n 3, 1) := by decide +kernel
theorem dX5_guide_57 : decode cX5_guide 57 = .ok (.getfield 62, 3) := by decide +kernel
theorem dX5_guide_60 : decode cX5_guide 60 = .ok (.ireturn, 1) := by decide +kernel
theorem dX5_guide_61 : decode cX5_guide 61 = .ok (.aload_n 3, 1) := by decide +kernel
theorem dX5_guide_62 : decode cX5_guide 62 = .ok (.getfield 65, 3) := by decide +kernel
theorem dX5_guide_65 : decode cX5_guide 65 = .ok (.ireturn, 1) := by decide +kernel
theorem dX5_guide_66 : decode cX5_guide 66 = .ok (.aload_n 3, 1) := by decide +kernel
theorem dX5_guide_67 : decode cX5_guide 67 = .ok (.aload_n 0, 1) := by decide +kernel
theorem dX5_guide_68 : decode cX5_guide 68 = .ok (.getfield 10, 3) := by decide +kernel
theorem dX5_guide_71 : decode cX5_guide 71 = .ok (.getfield 100, 3) := by decide +kernel
theorem dX5_guide_74 : decode cX5_guide 74 = .ok (.invokevirtual 234, 3) := by decide +kernel
theorem dX5_guide_77 : decode cX5_guide 77 = .ok (.ifCond .eq 7, 3) := by decide +kernel
theorem dX5_guide_80 : decode cX5_guide 80 = .ok (.iconst 1, 1) := by decide +kernel
theorem dX5_guide_81 : decode cX5_guide 81 = .ok (.goto 4, 3) := by decide +kernel
theorem dX5_guide_84 : decode cX5_guide 84 = .ok (.iconst 0, 1) := by decide +kernel
theorem dX5_guide_85 : decode cX5_guide 85 = .ok (.ireturn, 1) := by decide +kernel
theorem dX5_guide_86 : decode cX5_guide 86 = .ok (.aload_n 0, 1) := by decide +kernel
theorem dX5_guide_87 : decode cX5_guide 87 = .ok (.getfield 10, 3) := by decide +kernel
theorem dX5_guide_90 : decode cX5_guide 90 = .ok (.iload_n 1, 1) := by decide +kernel
theorem dX5_guide_91 : decode cX5_guide 91 = .ok (.invokevirtual 237, 3) := by decide +kernel
theorem dX5_guide_94 : decode cX5_guide 94 = .ok (.ireturn, 1) := by decide +kernel
theorem dX5_guide_95 : decode cX5_guide 95 = .ok (.aload_n 3, 1) := by decide +kernel
theorem dX5_guide_96 : decode cX5_guide 96 = .ok (.getfield 240, 3) := by decide +kernel
theorem dX5_guide_99 : decode cX5_guide 99 = .ok (.ireturn, 1) := by decide +kernel
theorem dX5_guide_100 : decode cX5_guide 100 = .ok (.aload_n 3, 1) := by decide +kernel
theorem dX5_guide_101 : decode cX5_guide 101 = .ok (.getfield 243, 3) := by decide +kernel
theorem dX5_guide_104 : decode cX5_guide 104 = .ok (.ireturn, 1) := by decide +kernel
theorem dX5_guide_105 : decode cX5_guide 105 = .ok (.bipush (-2), 2) := by decide +kernel
theorem dX5_guide_107 : decode cX5_guide 107 = .ok (.ireturn, 1) := by decide +kernel
theorem dX5_tour_0 : decode cX5_tour 0 = .ok (.aload_n 0, 1) := by decide +kernel
theorem dX5_tour_1 : decode cX5_tour 1 = .ok (.getfield 10, 3) := by decide +kernel
theorem dX5_tour_4 : decode cX5_tour 4 = .ok (.iload_n 1, 1) := by decide +kernel
theorem dX5_tour_5 : decode cX5_tour 5 = .ok (.invokevirtual 120, 3) := by decide +kernel
theorem dX5_tour_8 : decode cX5_tour 8 = .ok (.astore_n 3, 1) := by decide +kernel
theorem dX5_tour_9 : decode cX5_tour 9 = .ok (.aload_n 3, 1) := by decide +kernel
theorem dX5_tour_10 : decode cX5_tour 10 = .ok (.ifnonnull 5, 3) := by decide +kernel
theorem dX5_tour_13 : decode cX5_tour 13 = .ok (.iconst (-1), 1) := by decide +kernel
theorem dX5_tour_14 : decode cX5_tour 14 = .ok (.ireturn, 1) := by decide +kernel
theorem dX5_tour_15 : decode cX5_tour 15 = .ok (.iload_n 2, 1) := by decide +kernel
theorem dX5_tour_16 : decode cX5_tour 16 = .ok (.tableswitch 152 0 10 #[60, 65, 70, 75, 80, 85, 90, 95, 113, 126, 131], 60) := by decide +kernel
theorem dX5_tour_76 : decode cX5_tour 76 = .ok (.aload_n 3, 1) := by decide +kernel
theorem dX5_tour_77 : decode cX5_tour 77 = .ok (.getfield 246, 3) := by decide +kernel
theorem dX5_tour_80 : decode cX5_tour 80 = .ok (.ireturn, 1) := by decide +kernel
theorem dX5_tour_81 : decode cX5_tour 81 = .ok (.aload_n 3, 1) := by decide +kernel
theorem dX5_tour_82 : decode cX5_tour 82 = .ok (.getfield 133, 3) := by decide +kernel
theorem dX5_tour_85 : decode cX5_tour 85 = .ok (.ireturn, 1) := by decide +kernel
theorem dX5_tour_86 : decode cX5_tour 86 = .ok (.aload_n 3, 1) := by decide +kernel
theorem dX5_tour_87 : decode cX5_tour 87 = .ok (.getfield 247, 3) := by decide +kernel
theorem dX5_tour_90 : decode cX5_tour 90 = .ok (.ireturn, 1) := by decide +kernel
theorem dX5_tour_91 : decode cX5_tour 91 = .ok (.aload_n 3, 1) := by decide +kernel
theorem dX5_tour_92 : decode cX5_tour 92 = .ok (.getfield 130, 3) := by decide +kernel
theorem dX5_tour_95 : decode cX5_tour 95 = .ok (.ireturn, 1) := by decide +kernel
theorem dX5_tour_96 : decode cX5_tour 96 = .ok (.aload_n 3, 1) := by decide +kernel
theorem dX5_tour_97 : decode cX5_tour 97 = .ok (.getfield 151, 3) := by decide +kernel
theorem dX5_tour_100 : decode cX5_tour 100 = .ok (.ireturn, 1) := by decide +kernel
theorem dX5_tour_101 : decode cX5_tour 101 = .ok (.aload_n 3, 1) := by decide +kernel
theorem dX5_tour_102 : decode cX5_tour 102 = .ok (.getfield 136, 3) := by decide +kernel
theorem dX5_tour_105 : decode cX5_tour 105 = .ok (.ireturn, 1) := by decide +kernel
theorem dX5_tour_106 : decode cX5_tour 106 = .ok (.aload_n 3, 1) := by decide +kernel
theorem dX5_tour_107 : decode cX5_tour 107 = .ok (.getfield 127, 3) := by decide +kernel
theorem dX5_tour_110 : decode cX5_tour 110 = .ok (.ireturn, 1) := by decide +kernel
theorem dX5_tour_111 : decode cX5_tour 111 = .ok (.aload_n 3, 1) := by decide +kernel
theorem dX5_tour_112 : decode cX5_tour 112 = .ok (.getfield 127, 3) := by decide +kernel
theorem dX5_tour_115 : decode cX5_tour 115 = .ok (.iconst 2, 1) := by decide +kernel
theorem dX5_tour_116 : decode cX5_tour 116 = .ok (.if_icmp .ne 10, 3) := by decide +kernel
theorem dX5_tour_119 : decode cX5_tour 119 = .ok (.aload_n 3, 1) := by decide +kernel
theorem dX5_tour_120 : decode cX5_tour 120 = .ok (.getfield 250, 3) := by decide +kernel
theorem dX5_tour_123 : decode cX5_tour 123 = .ok (.goto 5, 3) := by decide +kernel
theorem dX5_tour_126 : decode cX5_tour 126 = .ok (.bipush (-5), 2) := by decide +kernel
theorem dX5_tour_128 : decode cX5_tour 128 = .ok (.ireturn, 1) := by decide +kernel
theorem dX5_tour_129 : decode cX5_tour 129 = .ok (.aload_n 0, 1) := by decide +kernel
theorem dX5_tour_130 : decode cX5_tour 130 = .ok (.getfield 10, 3) := by decide +kernel
theorem dX5_tour_133 : decode cX5_tour 133 = .ok (.aload_n 3, 1) := by decide +kernel
theorem dX5_tour_134 : decode cX5_tour 134 = .ok (.aload_n 3, 1) := by decide +kernel
theorem dX5_tour_135 : decode cX5_tour 135 = .ok (.getfield 151, 3) := by decide +kernel
theorem dX5_tour_138 : decode cX5_tour 138 = .ok (.invokevirtual 167, 3) := by decide +kernel
theorem dX5_tour_141 : decode cX5_tour 141 = .ok (.ireturn, 1) := by decide +kernel
theorem dX5_tour_142 : decode cX5_tour 142 = .ok (.aload_n 3, 1) := by decide +kernel
theorem dX5_tour_143 : decode cX5_tour 143 = .ok (.getfield 253, 3) := by decide +kernel
theorem dX5_tour_146 : decode cX5_tour 146 = .ok (.ireturn, 1) := by decide +kernel
theorem dX5_tour_147 : decode cX5_tour 147 = .ok (.aload_n 3, 1) := by decide +kernel
theorem dX5_tour_148 : decode cX5_tour 148 = .ok (.getfield 127, 3) := by decide +kernel
theorem dX5_tour_151 : decode cX5_tour 151 = .ok (.ifCond .ne 14, 3) := by decide +kernel
theorem dX5_tour_154 : decode cX5_tour 154 = .ok (.aload_n 0, 1) := by decide +kernel
theorem dX5_tour_155 : decode cX5_tour 155 = .ok (.getfield 10, 3) := by decide +kernel
theorem dX5_tour_158 : decode cX5_tour 158 = .ok (.aload_n 3, 1) := by decide +kernel
theorem dX5_tour_159 : decode cX5_tour 159 = .ok (.invokevirtual 256, 3) := by decide +kernel
theorem dX5_tour_162 : decode cX5_tour 162 = .ok (.goto 5, 3) := by decide +kernel
theorem dX5_tour_165 : decode cX5_tour 165 = .ok (.bipush (-5), 2) := by decide +kernel
theorem dX5_tour_167 : decode cX5_tour 167 = .ok (.ireturn, 1) := by decide +kernel
theorem dX5_tour_168 : decode cX5_tour 168 = .ok (.bipush (-2), 2) := by decide +kernel
theorem dX5_tour_170 : decode cX5_tour 170 = .ok (.ireturn, 1) := by decide +kernel
theorem dX5_rope_0 : decode cX5_rope 0 = .ok (.aload_n 0, 1) := by decide +kernel
theorem dX5_rope_1 : decode cX5_rope 1 = .ok (.getfield 10, 3) := by decide +kernel
theorem dX5_rope_4 : decode cX5_rope 4 = .ok (.iload_n 1, 1) := by decide +kernel
theorem dX5_rope_5 : decode cX5_rope 5 = .ok (.invokevirtual 120, 3) := by decide +kernel
theorem dX5_rope_8 : decode cX5_rope 8 = .ok (.astore 4, 2) := by decide +kernel
theorem dX5_rope_10 : decode cX5_rope 10 = .ok (.aload 4, 2) := by decide +kernel
theorem dX5_rope_12 : decode cX5_rope 12 = .ok (.ifnonnull 5, 3) := by decide +kernel
theorem dX5_rope_15 : decode cX5_rope 15 = .ok (.iconst (-1), 1) := by decide +kernel
theorem dX5_rope_16 : decode cX5_rope 16 = .ok (.ireturn, 1) := by decide +kernel
theorem dX5_rope_17 : decode cX5_rope 17 = .ok (.iload_n 2, 1) := by decide +kernel
theorem dX5_rope_18 : decode cX5_rope 18 = .ok (.ifCond .lt 12, 3) := by decide +kernel
theorem dX5_rope_21 : decode cX5_rope 21 = .ok (.iload_n 3, 1) := by decide +kernel
theorem dX5_rope_22 : decode cX5_rope 22 = .ok (.ifCond .lt 8, 3) := by decide +kernel
theorem dX5_rope_25 : decode cX5_rope 25 = .ok (.iload_n 3, 1) := by decide +kernel
theorem dX5_rope_26 : decode cX5_rope 26 = .ok (.iconst 2, 1) := by decide +kernel
theorem dX5_rope_27 : decode cX5_rope 27 = .ok (.if_icmp .le 6, 3) := by decide +kernel
theorem dX5_rope_30 : decode cX5_rope 30 = .ok (.bipush (-2), 2) := by decide +kernel
theorem dX5_rope_32 : decode cX5_rope 32 = .ok (.ireturn, 1) := by decide +kernel
theorem dX5_rope_33 : decode cX5_rope 33 = .ok (.iload_n 2, 1) := by decide +kernel
theorem dX5_rope_34 : decode cX5_rope 34 = .ok (.aload 4, 2) := by decide +kernel
theorem dX5_rope_36 : decode cX5_rope 36 = .ok (.getfield 151, 3) := by decide +kernel
theorem dX5_rope_39 : decode cX5_rope 39 = .ok (.if_icmp .lt 6, 3) := by decide +kernel
theorem dX5_rope_42 : decode cX5_rope 42 = .ok (.bipush (-5), 2) := by decide +kernel
theorem dX5_rope_44 : decode cX5_rope 44 = .ok (.ireturn, 1) := by decide +kernel
theorem dX5_rope_45 : decode cX5_rope 45 = .ok (.iload_n 3, 1) := by decide +kernel
theorem dX5_rope_46 : decode cX5_rope 46 = .ok (.ifCond .ne 11, 3) := by decide +kernel
theorem dX5_rope_49 : decode cX5_rope 49 = .ok (.aload 4, 2) := by decide +kernel
theorem dX5_rope_51 : decode cX5_rope 51 = .ok (.getfield 260, 3) := by decide +kernel
theorem dX5_rope_54 : decode cX5_rope 54 = .ok (.iload_n 2, 1) := by decide +kernel
theorem dX5_rope_55 : decode cX5_rope 55 = .ok (.iaload, 1) := by decide +kernel
theorem dX5_rope_56 : decode cX5_rope 56 = .ok (.ireturn, 1) := by decide +kernel
theorem dX5_rope_57 : decode cX5_rope 57 = .ok (.iload_n 3, 1) := by decide +kernel
theorem dX5_rope_58 : decode cX5_rope 58 = .ok (.iconst 1, 1) := by decide +kernel
theorem dX5_rope_59 : decode cX5_rope 59 = .ok (.if_icmp .ne 20, 3) := by decide +kernel
theorem dX5_rope_62 : decode cX5_rope 62 = .ok (.aload_n 0, 1) := by decide +kernel
theorem dX5_rope_63 : decode cX5_rope 63 = .ok (.getfield 10, 3) := by decide +kernel
theorem dX5_rope_66 : decode cX5_rope 66 = .ok (.aload 4, 2) := by decide +kernel
theorem dX5_rope_68 : decode cX5_rope 68 = .ok (.getfield 260, 3) := by decide +kernel
theorem dX5_rope_71 : decode cX5_rope 71 = .ok (.iload_n 2, 1) := by decide +kernel
theorem dX5_rope_72 : decode cX5_rope 72 = .ok (.iaload, 1) := by decide +kernel
theorem dX5_rope_73 : decode cX5_rope 73 = .ok (.aload 4, 2) := by decide +kernel
theorem dX5_rope_75 : decode cX5_rope 75 = .ok (.invokevirtual 157, 3) := by decide +kernel
theorem dX5_rope_78 : decode cX5_rope 78 = .ok (.ireturn, 1) := by decide +kernel
theorem dX5_rope_79 : decode cX5_rope 79 = .ok (.aload_n 0, 1) := by decide +kernel
theorem dX5_rope_80 : decode cX5_rope 80 = .ok (.getfield 10, 3) := by decide +kernel
theorem dX5_rope_83 : decode cX5_rope 83 = .ok (.aload 4, 2) := by decide +kernel
theorem dX5_rope_85 : decode cX5_rope 85 = .ok (.iload_n 2, 1) := by decide +kernel
theorem dX5_rope_86 : decode cX5_rope 86 = .ok (.invokevirtual 264, 3) := by decide +kernel
theorem dX5_rope_89 : decode cX5_rope 89 = .ok (.ireturn, 1) := by decide +kernel
theorem dX5_thickness_0 : decode cX5_thickness 0 = .ok (.aload_n 0, 1) := by decide +kernel
theorem dX5_thickness_1 : decode cX5_thickness 1 = .ok (.getfield 10, 3) := by decide +kernel
theorem dX5_thickness_4 : decode cX5_thickness 4 = .ok (.iload_n 1, 1) := by decide +kernel
theorem dX5_thickness_5 : decode cX5_thickness 5 = .ok (.invokevirtual 267, 3) := by decide +kernel
theorem dX5_thickness_8 : decode cX5_thickness 8 = .ok (.ifCond .eq 15, 3) := by decide +kernel
theorem dX5_thickness_11 : decode cX5_thickness 11 = .ok (.aload_n 0, 1) := by decide +kernel
theorem dX5_thickness_12 : decode cX5_thickness 12 = .ok (.getfield 10, 3) := by decide +kernel
theorem dX5_thickness_15 : decode cX5_thickness 15 = .ok (.getfield 80, 3) := by decide +kernel
theorem dX5_thickness_18 : decode cX5_thickness 18 = .ok (.iload_n 1, 1) := by decide +kernel
theorem dX5_thickness_19 : decode cX5_thickness 19 = .ok (.daload, 1) := by decide +kernel
theorem dX5_thickness_20 : decode cX5_thickness 20 = .ok (.goto 6, 3) := by decide +kernel
theorem dX5_thickness_23 : decode cX5_thickness 23 = .ok (.invokestatic 270, 3) := by decide +kernel
theorem dX5_thickness_26 : decode cX5_thickness 26 = .ok (.dreturn, 1) := by decide +kernel
theorem dX5_foretold_0 : decode cX5_foretold 0 = .ok (.aload_n 0, 1) := by decide +kernel
theorem dX5_foretold_1 : decode cX5_foretold 1 = .ok (.getfield 10, 3) := by decide +kernel
theorem dX5_foretold_4 : decode cX5_foretold 4 = .ok (.iload_n 1, 1) := by decide +kernel
theorem dX5_foretold_5 : decode cX5_foretold 5 = .ok (.invokevirtual 267, 3) := by decide +kernel
theorem dX5_foretold_8 : decode cX5_foretold 8 = .ok (.ifCond .eq 13, 3) := by decide +kernel
theorem dX5_foretold_11 : decode cX5_foretold 11 = .ok (.iload_n 2, 1) := by decide +kernel
theorem dX5_foretold_12 : decode cX5_foretold 12 = .ok (.ifCond .lt 9, 3) := by decide +kernel
theorem dX5_foretold_15 : decode cX5_foretold 15 = .ok (.iload_n 2, 1) := by decide +kernel
theorem dX5_foretold_16 : decode cX5_foretold 16 = .ok (.bipush 30, 2) := by decide +kernel
theorem dX5_foretold_18 : decode cX5_foretold 18 = .ok (.if_icmp .le 7, 3) := by decide +kernel
theorem dX5_foretold_21 : decode cX5_foretold 21 = .ok (.invokestatic 270, 3) := by decide +kernel
theorem dX5_foretold_24 : decode cX5_foretold 24 = .ok (.dreturn, 1) := by decide +kernel
theorem dX5_foretold_25 : decode cX5_foretold 25 = .ok (.aload_n 0, 1) := by decide +kernel
theorem dX5_foretold_26 : decode cX5_foretold 26 = .ok (.getfield 10, 3) := by decide +kernel
theorem dX5_foretold_29 : decode cX5_foretold 29 = .ok (.getfield 80, 3) := by decide +kernel
theorem dX5_foretold_32 : decode cX5_foretold 32 = .ok (.iload_n 1, 1) := by decide +kernel
theorem dX5_foretold_33 : decode cX5_foretold 33 = .ok (.daload, 1) := by decide +kernel
theorem dX5_foretold_34 : decode cX5_foretold 34 = .ok (.dstore_n 3, 1) := by decide +kernel
theorem dX5_foretold_35 : decode cX5_foretold 35 = .ok (.iconst 0, 1) := by decide +kernel
theorem dX5_foretold_36 : decode cX5_foretold 36 = .ok (.istore 5, 2) := by decide +kernel
theorem dX5_foretold_38 : decode cX5_foretold 38 = .ok (.iload 5, 2) := by decide +kernel
theorem dX5_foretold_40 : decode cX5_foretold 40 = .ok (.iload_n 2, 1) := by decide +kernel
theorem dX5_foretold_41 : decode cX5_foretold 41 = .ok (.if_icmp .ge 18, 3) := by decide +kernel
theorem dX5_foretold_44 : decode cX5_foretold 44 = .ok (.aload_n 0, 1) := by decide +kernel
theorem dX5_foretold_45 : decode cX5_foretold 45 = .ok (.getfield 10, 3) := by decide +kernel
theorem dX5_foretold_48 : decode cX5_foretold 48 = .ok (.dload_n 3, 1) := by decide +kernel
theorem dX5_foretold_49 : decode cX5_foretold 49 = .ok (.invokevirtual 274, 3) := by decide +kernel
theorem dX5_foretold_52 : decode cX5_foretold 52 = .ok (.dstore_n 3, 1) := by decide +kernel
theorem dX5_foretold_53 : decode cX5_foretold 53 = .ok (.iinc 5 1, 3) := by decide +kernel
theorem dX5_foretold_56 : decode cX5_foretold 56 = .ok (.goto (-18), 3) := by decide +kernel
theorem dX5_foretold_59 : decode cX5_foretold 59 = .ok (.dload_n 3, 1) := by decide +kernel
theorem dX5_foretold_60 : decode cX5_foretold 60 = .ok (.dreturn, 1) := by decide +kernel
theorem dX5_needed_0 : decode cX5_needed 0 = .ok (.aload_n 0, 1) := by decide +kernel
theorem dX5_needed_1 : decode cX5_needed 1 = .ok (.getfield 10, 3) := by decide +kernel
theorem dX5_needed_4 : decode cX5_needed 4 = .ok (.iload_n 1, 1) := by decide +kernel
theorem dX5_needed_5 : decode cX5_needed 5 = .ok (.invokevirtual 120, 3) := by decide +kernel
theorem dX5_needed_8 : decode cX5_needed 8 = .ok (.astore_n 2, 1) := by decide +kernel
theorem dX5_needed_9 : decode cX5_needed 9 = .ok (.aload_n 2, 1) := by decide +kernel
theorem dX5_needed_10 : decode cX5_needed 10 = .ok (.ifnonnull 9, 3) := by decide +kernel
theorem dX5_needed_13 : decode cX5_needed 13 = .ok (.invokestatic 270, 3) := by decide +kernel
theorem dX5_needed_16 : decode cX5_needed 16 = .ok (.goto 11, 3) := by decide +kernel
theorem dX5_needed_19 : decode cX5_needed 19 = .ok (.aload_n 0, 1) := by decide +kernel
theorem dX5_needed_20 : decode cX5_needed 20 = .ok (.getfield 10, 3) := by decide +kernel
theorem dX5_needed_23 : decode cX5_needed 23 = .ok (.aload_n 2, 1) := by decide +kernel
theorem dX5_needed_24 : decode cX5_needed 24 = .ok (.invokevirtual 278, 3) := by decide +kernel
theorem dX5_needed_27 : decode cX5_needed 27 = .ok (.dreturn, 1) := by decide +kernel
theorem dX5_holds_0 : decode cX5_holds 0 = .ok (.aload_n 0, 1) := by decide +kernel
theorem dX5_holds_1 : decode cX5_holds 1 = .ok (.getfield 10, 3) := by decide +kernel
theorem dX5_holds_4 : decode cX5_holds 4 = .ok (.iload_n 1, 1) := by decide +kernel
theorem dX5_holds_5 : decode cX5_holds 5 = .ok (.invokevirtual 120, 3) := by decide +kernel
theorem dX5_holds_8 : decode cX5_holds 8 = .ok (.astore_n 3, 1) := by decide +kernel
theorem dX5_holds_9 : decode cX5_holds 9 = .ok (.aload_n 3, 1) := by decide +kernel
theorem dX5_holds_10 : decode cX5_holds 10 = .ok (.ifnull 14, 3) := by decide +kernel
theorem dX5_holds_13 : decode cX5_holds 13 = .ok (.aload_n 0, 1) := by decide +kernel
theorem dX5_holds_14 : decode cX5_holds 14 = .ok (.getfield 10, 3) := by decide +kernel
theorem dX5_holds_17 : decode cX5_holds 17 = .ok (.iload_n 2, 1) := by decide +kernel
theorem dX5_holds_18 : decode cX5_holds 18 = .ok (.invokevirtual 267, 3) := by decide +kernel
theorem dX5_holds_21 : decode cX5_holds 21 = .ok (.ifCond .ne 5, 3) := by decide +kernel
theorem dX5_holds_24 : decode cX5_holds 24 = .ok (.iconst (-1), 1) := by decide +kernel
theorem dX5_holds_25 : decode cX5_holds 25 = .ok (.ireturn, 1) := by decide +kernel
theorem dX5_holds_26 : decode cX5_holds 26 = .ok (.aload_n 0, 1) := by decide +kernel
theorem dX5_holds_27 : decode cX5_holds 27 = .ok (.getfield 10, 3) := by decide +kernel
theorem dX5_holds_30 : decode cX5_holds 30 = .ok (.getfield 80, 3) := by decide +kernel
theorem dX5_holds_33 : decode cX5_holds 33 = .ok (.iload_n 2, 1) := by decide +kernel
theorem dX5_holds_34 : decode cX5_holds 34 = .ok (.daload, 1) := by decide +kernel
theorem dX5_holds_35 : decode cX5_holds 35 = .ok (.aload_n 0, 1) := by decide +kernel
theorem dX5_holds_36 : decode cX5_holds 36 = .ok (.getfield 10, 3) := by decide +kernel
theorem dX5_holds_39 : decode cX5_holds 39 = .ok (.aload_n 3, 1) := by decide +kernel
theorem dX5_holds_40 : decode cX5_holds 40 = .ok (.invokevirtual 278, 3) := by decide +kernel
theorem dX5_holds_43 : decode cX5_holds 43 = .ok (.dcmp .l, 1) := by decide +kernel
theorem dX5_holds_44 : decode cX5_holds 44 = .ok (.ifCond .lt 7, 3) := by decide +kernel
theorem dX5_holds_47 : decode cX5_holds 47 = .ok (.iconst 1, 1) := by decide +kernel
theorem dX5_holds_48 : decode cX5_holds 48 = .ok (.goto 4, 3) := by decide +kernel
theorem dX5_holds_51 : decode cX5_holds 51 = .ok (.iconst 0, 1) := by decide +kernel
theorem dX5_holds_52 : decode cX5_holds 52 = .ok (.ireturn, 1) := by decide +kernel
theorem dX5_bestGuide_0 : decode cX5_bestGuide 0 = .ok (.aload_n 0, 1) := by decide +kernel
theorem dX5_bestGuide_1 : decode cX5_bestGuide 1 = .ok (.getfield 10, 3) := by decide +kernel
theorem dX5_bestGuide_4 : decode cX5_bestGuide 4 = .ok (.iload_n 1, 1) := by decide +kernel
theorem dX5_bestGuide_5 : decode cX5_bestGuide 5 = .ok (.invokevirtual 120, 3) := by decide +kernel
theorem dX5_bestGuide_8 : decode cX5_bestGuide 8 = .ok (.astore_n 2, 1) := by decide +kernel
theorem dX5_bestGuide_9 : decode cX5_bestGuide 9 = .ok (.aload_n 2, 1) := by decide +kernel
theorem dX5_bestGuide_10 : decode cX5_bestGuide 10 = .ok (.ifnonnull 5, 3) := by decide +kernel
theorem dX5_bestGuide_13 : decode cX5_bestGuide 13 = .ok (.iconst (-1), 1) := by decide +kernel
theorem dX5_bestGuide_14 : decode cX5_bestGuide 14 = .ok (.ireturn, 1) := by decide +kernel
theorem dX5_bestGuide_15 : decode cX5_bestGuide 15 = .ok (.aload_n 2, 1) := by decide +kernel
theorem dX5_bestGuide_16 : decode cX5_bestGuide 16 = .ok (.getfield 151, 3) := by decide +kernel
theorem dX5_bestGuide_19 : decode cX5_bestGuide 19 = .ok (.iconst 4, 1) := by decide +kernel
theorem dX5_bestGuide_20 : decode cX5_bestGuide 20 = .ok (.if_icmp .lt 6, 3) := by decide +kernel
theorem dX5_bestGuide_23 : decode cX5_bestGuide 23 = .ok (.bipush (-5), 2) := by decide +kernel
theorem dX5_bestGuide_25 : decode cX5_bestGuide 25 = .ok (.ireturn, 1) := by decide +kernel
theorem dX5_bestGuide_26 : decode cX5_bestGuide 26 = .ok (.bipush (-5), 2) := by decide +kernel
theorem dX5_bestGuide_28 : decode cX5_bestGuide 28 = .ok (.istore_n 3, 1) := by decide +kernel
theorem dX5_bestGuide_29 : decode cX5_bestGuide 29 = .ok (.iconst 0, 1) := by decide +kernel
theorem dX5_bestGuide_30 : decode cX5_bestGuide 30 = .ok (.istore 4, 2) := by decide +kernel
theorem dX5_bestGuide_32 : decode cX5_bestGuide 32 = .ok (.iconst 0, 1) := by decide +kernel
theorem dX5_bestGuide_33 : decode cX5_bestGuide 33 = .ok (.istore 5, 2) := by decide +kernel
theorem dX5_bestGuide_35 : decode cX5_bestGuide 35 = .ok (.iload 5, 2) := by decide +kernel
theorem dX5_bestGuide_37 : decode cX5_bestGuide 37 = .ok (.aload_n 0, 1) := by decide +kernel
theorem dX5_bestGuide_38 : decode cX5_bestGuide 38 = .ok (.getfield 10, 3) := by decide +kernel
theorem dX5_bestGuide_41 : decode cX5_bestGuide 41 = .ok (.getfield 40, 3) := by decide +kernel
theorem dX5_bestGuide_44 : decode cX5_bestGuide 44 = .ok (.if_icmp .ge 52, 3) := by decide +kernel
theorem dX5_bestGuide_47 : decode cX5_bestGuide 47 = .ok (.aload_n 0, 1) := by decide +kernel
theorem dX5_bestGuide_48 : decode cX5_bestGuide 48 = .ok (.getfield 10, 3) := by decide +kernel
theorem dX5_bestGuide_51 : decode cX5_bestGuide 51 = .ok (.iload 5, 2) := by decide +kernel
theorem dX5_bestGuide_53 : decode cX5_bestGuide 53 = .ok (.aload_n 2, 1) := by decide +kernel
theorem dX5_bestGuide_54 : decode cX5_bestGuide 54 = .ok (.invokevirtual 147, 3) := by decide +kernel
theorem dX5_bestGuide_57 : decode cX5_bestGuide 57 = .ok (.ifCond .eq 33, 3) := by decide +kernel
theorem dX5_bestGuide_60 : decode cX5_bestGuide 60 = .ok (.aload_n 0, 1) := by decide +kernel
theorem dX5_bestGuide_61 : decode cX5_bestGuide 61 = .ok (.getfield 10, 3) := by decide +kernel
theorem dX5_bestGuide_64 : decode cX5_bestGuide 64 = .ok (.iload 5, 2) := by decide +kernel
theorem dX5_bestGuide_66 : decode cX5_bestGuide 66 = .ok (.aload_n 2, 1) := by decide +kernel
theorem dX5_bestGuide_67 : decode cX5_bestGuide 67 = .ok (.invokevirtual 157, 3) := by decide +kernel
theorem dX5_bestGuide_70 : decode cX5_bestGuide 70 = .ok (.iload 4, 2) := by decide +kernel
theorem dX5_bestGuide_72 : decode cX5_bestGuide 72 = .ok (.if_icmp .le 18, 3) := by decide +kernel
theorem dX5_bestGuide_75 : decode cX5_bestGuide 75 = .ok (.iload 5, 2) := by decide +kernel
theorem dX5_bestGuide_77 : decode cX5_bestGuide 77 = .ok (.istore_n 3, 1) := by decide +kernel
theorem dX5_bestGuide_78 : decode cX5_bestGuide 78 = .ok (.aload_n 0, 1) := by decide +kernel
theorem dX5_bestGuide_79 : decode cX5_bestGuide 79 = .ok (.getfield 10, 3) := by decide +kernel
theorem dX5_bestGuide_82 : decode cX5_bestGuide 82 = .ok (.iload 5, 2) := by decide +kernel
theorem dX5_bestGuide_84 : decode cX5_bestGuide 84 = .ok (.aload_n 2, 1) := by decide +kernel
theorem dX5_bestGuide_85 : decode cX5_bestGuide 85 = .ok (.invokevirtual 157, 3) := by decide +kernel
theorem dX5_bestGuide_88 : decode cX5_bestGuide 88 = .ok (.istore 4, 2) := by decide +kernel
theorem dX5_bestGuide_90 : decode cX5_bestGuide 90 = .ok (.iinc 5 1, 3) := by decide +kernel
theorem dX5_bestGuide_93 : decode cX5_bestGuide 93 = .ok (.goto (-58), 3) := by decide +kernel
theorem dX5_bestGuide_96 : decode cX5_bestGuide 96 = .ok (.iload_n 3, 1) := by decide +kernel
theorem dX5_bestGuide_97 : decode cX5_bestGuide 97 = .ok (.ireturn, 1) := by decide +kernel
theorem dX5_takes_0 : decode cX5_takes 0 = .ok (.aload_n 0, 1) := by decide +kernel
theorem dX5_takes_1 : decode cX5_takes 1 = .ok (.getfield 10, 3) := by decide +kernel
theorem dX5_takes_4 : decode cX5_takes 4 = .ok (.iload_n 2, 1) := by decide +kernel
theorem dX5_takes_5 : decode cX5_takes 5 = .ok (.invokevirtual 58, 3) := by decide +kernel
theorem dX5_takes_8 : decode cX5_takes 8 = .ok (.astore_n 3, 1) := by decide +kernel
theorem dX5_takes_9 : decode cX5_takes 9 = .ok (.aload_n 3, 1) := by decide +kernel
theorem dX5_takes_10 : decode cX5_takes 10 = .ok (.ifnonnull 5, 3) := by decide +kernel
theorem dX5_takes_13 : decode cX5_takes 13 = .ok (.iconst (-1), 1) := by decide +kernel
theorem dX5_takes_14 : decode cX5_takes 14 = .ok (.ireturn, 1) := by decide +kernel
theorem dX5_takes_15 : decode cX5_takes 15 = .ok (.iload_n 1, 1) := by decide +kernel
theorem dX5_takes_16 : decode cX5_takes 16 = .ok (.invokestatic 33, 3) := by decide +kernel
theorem dX5_takes_19 : decode cX5_takes 19 = .ok (.ifCond .ne 6, 3) := by decide +kernel
theorem dX5_takes_22 : decode cX5_takes 22 = .ok (.bipush (-2), 2) := by decide +kernel
theorem dX5_takes_24 : decode cX5_takes 24 = .ok (.ireturn, 1) := by decide +kernel
theorem dX5_takes_25 : decode cX5_takes 25 = .ok (.aload_n 3, 1) := by decide +kernel
theorem dX5_takes_26 : decode cX5_takes 26 = .ok (.getfield 62, 3) := by decide +kernel
theorem dX5_takes_29 : decode cX5_takes 29 = .ok (.iload_n 1, 1) := by decide +kernel
theorem dX5_takes_30 : decode cX5_takes 30 = .ok (.if_icmp .ne 7, 3) := by decide +kernel
theorem dX5_takes_33 : decode cX5_takes 33 = .ok (.iconst 1, 1) := by decide +kernel
theorem dX5_takes_34 : decode cX5_takes 34 = .ok (.goto 4, 3) := by decide +kernel
theorem dX5_takes_37 : decode cX5_takes 37 = .ok (.iconst 0, 1) := by decide +kernel
theorem dX5_takes_38 : decode cX5_takes 38 = .ok (.ireturn, 1) := by decide +kernel
theorem dX5_count_0 : decode cX5_count 0 = .ok (.iload_n 1, 1) := by decide +kernel
theorem dX5_count_1 : decode cX5_count 1 = .ok (.tableswitch 175 0 12 #[67, 75, 83, 91, 99, 108, 117, 126, 135, 143, 151, 159, 167], 67) := by decide +kernel
theorem dX5_count_68 : decode cX5_count 68 = .ok (.aload_n 0, 1) := by decide +kernel
theorem dX5_count_69 : decode cX5_count 69 = .ok (.getfield 10, 3) := by decide +kernel
theorem dX5_count_72 : decode cX5_count 72 = .ok (.getfield 100, 3) := by decide +kernel
theorem dX5_count_75 : decode cX5_count 75 = .ok (.ireturn, 1) := by decide +kernel
theorem dX5_count_76 : decode cX5_count 76 = .ok (.aload_n 0, 1) := by decide +kernel
theorem dX5_count_77 : decode cX5_count 77 = .ok (.getfield 10, 3) := by decide +kernel
theorem dX5_count_80 : decode cX5_count 80 = .ok (.getfield 40, 3) := by decide +kernel
theorem dX5_count_83 : decode cX5_count 83 = .ok (.ireturn, 1) := by decide +kernel
theorem dX5_count_84 : decode cX5_count 84 = .ok (.aload_n 0, 1) := by decide +kernel
theorem dX5_count_85 : decode cX5_count 85 = .ok (.getfield 10, 3) := by decide +kernel
theorem dX5_count_88 : decode cX5_count 88 = .ok (.getfield 77, 3) := by decide +kernel
theorem dX5_count_91 : decode cX5_count 91 = .ok (.ireturn, 1) := by decide +kernel
theorem dX5_count_92 : decode cX5_count 92 = .ok (.aload_n 0, 1) := by decide +kernel
theorem dX5_count_93 : decode cX5_count 93 = .ok (.getfield 10, 3) := by decide +kernel
theorem dX5_count_96 : decode cX5_count 96 = .ok (.getfield 108, 3) := by decide +kernel
theorem dX5_count_99 : decode cX5_count 99 = .ok (.ireturn, 1) := by decide +kernel
theorem dX5_count_100 : decode cX5_count 100 = .ok (.aload_n 0, 1) := by decide +kernel
theorem dX5_count_101 : decode cX5_count 101 = .ok (.getfield 10, 3) := by decide +kernel
theorem dX5_count_104 : decode cX5_count 104 = .ok (.iconst 0, 1) := by decide +kernel
theorem dX5_count_105 : decode cX5_count 105 = .ok (.invokevirtual 282, 3) := by decide +kernel
theorem dX5_count_108 : decode cX5_count 108 = .ok (.ireturn, 1) := by decide +kernel
theorem dX5_count_109 : decode cX5_count 109 = .ok (.aload_n 0, 1) := by decide +kernel
theorem dX5_count_110 : decode cX5_count 110 = .ok (.getfield 10, 3) := by decide +kernel
theorem dX5_count_113 : decode cX5_count 113 = .ok (.iconst 1, 1) := by decide +kernel
theorem dX5_count_114 : decode cX5_count 114 = .ok (.invokevirtual 282, 3) := by decide +kernel
theorem dX5_count_117 : decode cX5_count 117 = .ok (.ireturn, 1) := by decide +kernel
theorem dX5_count_118 : decode cX5_count 118 = .ok (.aload_n 0, 1) := by decide +kernel
theorem dX5_count_119 : decode cX5_count 119 = .ok (.getfield 10, 3) := by decide +kernel
theorem dX5_count_122 : decode cX5_count 122 = .ok (.iconst 2, 1) := by decide +kernel
theorem dX5_count_123 : decode cX5_count 123 = .ok (.invokevirtual 282, 3) := by decide +kernel
theorem dX5_count_126 : decode cX5_count 126 = .ok (.ireturn, 1) := by decide +kernel
theorem dX5_count_127 : decode cX5_count 127 = .ok (.aload_n 0, 1) := by decide +kernel
theorem dX5_count_128 : decode cX5_count 128 = .ok (.getfield 10, 3) := by decide +kernel
theorem dX5_count_131 : decode cX5_count 131 = .ok (.iconst 3, 1) := by decide +kernel
theorem dX5_count_132 : decode cX5_count 132 = .ok (.invokevirtual 282, 3) := by decide +kernel
theorem dX5_count_135 : decode cX5_count 135 = .ok (.ireturn, 1) := by decide +kernel
theorem dX5_count_136 : decode cX5_count 136 = .ok (.aload_n 0, 1) := by decide +kernel
theorem dX5_count_137 : decode cX5_count 137 = .ok (.getfield 10, 3) := by decide +kernel
theorem dX5_count_140 : decode cX5_count 140 = .ok (.invokevirtual 285, 3) := by decide +kernel
theorem dX5_count_143 : decode cX5_count 143 = .ok (.ireturn, 1) := by decide +kernel
theorem dX5_count_144 : decode cX5_count 144 = .ok (.aload_n 0, 1) := by decide +kernel
theorem dX5_count_145 : decode cX5_count 145 = .ok (.getfield 10, 3) := by decide +kernel
theorem dX5_count_148 : decode cX5_count 148 = .ok (.getfield 288, 3) := by decide +kernel
theorem dX5_count_151 : decode cX5_count 151 = .ok (.ireturn, 1) := by decide +kernel
theorem dX5_count_152 : decode cX5_count 152 = .ok (.aload_n 0, 1) := by decide +kernel
theorem dX5_count_153 : decode cX5_count 153 = .ok (.getfield 10, 3) := by decide +kernel
theorem dX5_count_156 : decode cX5_count 156 = .ok (.invokevirtual 291, 3) := by decide +kernel
theorem dX5_count_159 : decode cX5_count 159 = .ok (.ireturn, 1) := by decide +kernel
theorem dX5_count_160 : decode cX5_count 160 = .ok (.aload_n 0, 1) := by decide +kernel
theorem dX5_count_161 : decode cX5_count 161 = .ok (.getfield 22, 3) := by decide +kernel
theorem dX5_count_164 : decode cX5_count 164 = .ok (.getfield 221, 3) := by decide +kernel
theorem dX5_count_167 : decode cX5_count 167 = .ok (.ireturn, 1) := by decide +kernel
theorem dX5_count_168 : decode cX5_count 168 = .ok (.aload_n 0, 1) := by decide +kernel
theorem dX5_count_169 : decode cX5_count 169 = .ok (.getfield 29, 3) := by decide +kernel
theorem dX5_count_172 : decode cX5_count 172 = .ok (.getfield 186, 3) := by decide +kernel
theorem dX5_count_175 : decode cX5_count 175 = .ok (.ireturn, 1) := by decide +kernel
theorem dX5_count_176 : decode cX5_count 176 = .ok (.bipush (-2), 2) := by decide +kernel
theorem dX5_count_178 : decode cX5_count 178 = .ok (.ireturn, 1) := by decide +kernel
theorem dX5_temperature_0 : decode cX5_temperature 0 = .ok (.aload_n 0, 1) := by decide +kernel
theorem dX5_temperature_1 : decode cX5_temperature 1 = .ok (.getfield 10, 3) := by decide +kernel
theorem dX5_temperature_4 : decode cX5_temperature 4 = .ok (.getfield 96, 3) := by decide +kernel
theorem dX5_temperature_7 : decode cX5_temperature 7 = .ok (.lreturn, 1) := by decide +kernel
theorem dX5_isClass_0 : decode cX5_isClass 0 = .ok (.iload_n 0, 1) := by decide +kernel
theorem dX5_isClass_1 : decode cX5_isClass 1 = .ok (.iconst 1, 1) := by decide +kernel
theorem dX5_isClass_2 : decode cX5_isClass 2 = .ok (.if_icmp .lt 12, 3) := by decide +kernel
theorem dX5_isClass_5 : decode cX5_isClass 5 = .ok (.iload_n 0, 1) := by decide +kernel
theorem dX5_isClass_6 : decode cX5_isClass 6 = .ok (.iconst 3, 1) := by decide +kernel
theorem dX5_isClass_7 : decode cX5_isClass 7 = .ok (.if_icmp .gt 7, 3) := by decide +kernel
theorem dX5_isClass_10 : decode cX5_isClass 10 = .ok (.iconst 1, 1) := by decide +kernel
theorem dX5_isClass_11 : decode cX5_isClass 11 = .ok (.goto 4, 3) := by decide +kernel
theorem dX5_isClass_14 : decode cX5_isClass 14 = .ok (.iconst 0, 1) := by decide +kernel
theorem dX5_isClass_15 : decode cX5_isClass 15 = .ok (.ireturn, 1) := by decide +kernel
theorem dX5_isLastDay_0 : decode cX5_isLastDay 0 = .ok (.iload_n 0, 1) := by decide +kernel
theorem dX5_isLastDay_1 : decode cX5_isLastDay 1 = .ok (.ifCond .lt 14, 3) := by decide +kernel
theorem dX5_isLastDay_4 : decode cX5_isLastDay 4 = .ok (.iload_n 0, 1) := by decide +kernel
theorem dX5_isLastDay_5 : decode cX5_isLastDay 5 = .ok (.sipush 999, 3) := by decide +kernel
theorem dX5_isLastDay_8 : decode cX5_isLastDay 8 = .ok (.if_icmp .gt 7, 3) := by decide +kernel
theorem dX5_isLastDay_11 : decode cX5_isLastDay 11 = .ok (.iconst 1, 1) := by decide +kernel
theorem dX5_isLastDay_12 : decode cX5_isLastDay 12 = .ok (.goto 4, 3) := by decide +kernel
theorem dX5_isLastDay_15 : decode cX5_isLastDay 15 = .ok (.iconst 0, 1) := by decide +kernel
theorem dX5_isLastDay_16 : decode cX5_isLastDay 16 = .ok (.ireturn, 1) := by decide +kernel
theorem dX5_isGuests_0 : decode cX5_isGuests 0 = .ok (.iload_n 0, 1) := by decide +kernel
theorem dX5_isGuests_1 : decode cX5_isGuests 1 = .ok (.iconst 1, 1) := by decide +kernel
theorem dX5_isGuests_2 : decode cX5_isGuests 2 = .ok (.if_icmp .lt 13, 3) := by decide +kernel
theorem dX5_isGuests_5 : decode cX5_isGuests 5 = .ok (.iload_n 0, 1) := by decide +kernel
theorem dX5_isGuests_6 : decode cX5_isGuests 6 = .ok (.bipush 12, 2) := by decide +kernel
theorem dX5_isGuests_8 : decode cX5_isGuests 8 = .ok (.if_icmp .gt 7, 3) := by decide +kernel
theorem dX5_isGuests_11 : decode cX5_isGuests 11 = .ok (.iconst 1, 1) := by decide +kernel
theorem dX5_isGuests_12 : decode cX5_isGuests 12 = .ok (.goto 4, 3) := by decide +kernel
theorem dX5_isGuests_15 : decode cX5_isGuests 15 = .ok (.iconst 0, 1) := by decide +kernel
theorem dX5_isGuests_16 : decode cX5_isGuests 16 = .ok (.ireturn, 1) := by decide +kernel
theorem dX5_isFromZeroTo_0 : decode cX5_isFromZeroTo 0 = .ok (.lload_n 2, 1) := by decide +kernel
theorem dX5_isFromZeroTo_1 : decode cX5_isFromZeroTo 1 = .ok (.lconst 0, 1) := by decide +kernel
theorem dX5_isFromZeroTo_2 : decode cX5_isFromZeroTo 2 = .ok (.lcmp, 1) := by decide +kernel
theorem dX5_isFromZeroTo_3 : decode cX5_isFromZeroTo 3 = .ok (.ifCond .lt 13, 3) := by decide +kernel
theorem dX5_isFromZeroTo_6 : decode cX5_isFromZeroTo 6 = .ok (.lload_n 2, 1) := by decide +kernel
theorem dX5_isFromZeroTo_7 : decode cX5_isFromZeroTo 7 = .ok (.lload_n 0, 1) := by decide +kernel
theorem dX5_isFromZeroTo_8 : decode cX5_isFromZeroTo 8 = .ok (.lcmp, 1) := by decide +kernel
theorem dX5_isFromZeroTo_9 : decode cX5_isFromZeroTo 9 = .ok (.ifCond .gt 7, 3) := by decide +kernel
theorem dX5_isFromZeroTo_12 : decode cX5_isFromZeroTo 12 = .ok (.iconst 1, 1) := by decide +kernel
theorem dX5_isFromZeroTo_13 : decode cX5_isFromZeroTo 13 = .ok (.goto 4, 3) := by decide +kernel
theorem dX5_isFromZeroTo_16 : decode cX5_isFromZeroTo 16 = .ok (.iconst 0, 1) := by decide +kernel
theorem dX5_isFromZeroTo_17 : decode cX5_isFromZeroTo 17 = .ok (.ireturn, 1) := by decide +kernel
theorem dX5_isTemperature_0 : decode cX5_isTemperature 0 = .ok (.lload_n 0, 1) := by decide +kernel
theorem dX5_isTemperature_1 : decode cX5_isTemperature 1 = .ok (.lconst 0, 1) := by decide +kernel
theorem dX5_isTemperature_2 : decode cX5_isTemperature 2 = .ok (.lcmp, 1) := by decide +kernel
theorem dX5_isTemperature_3 : decode cX5_isTemperature 3 = .ok (.ifCond .ge 17, 3) := by decide +kernel
theorem dX5_isTemperature_6 : decode cX5_isTemperature 6 = .ok (.ldc2_w 294, 3) := by decide +kernel
theorem dX5_isTemperature_9 : decode cX5_isTemperature 9 = .ok (.lload_n 0, 1) := by decide +kernel
theorem dX5_isTemperature_10 : decode cX5_isTemperature 10 = .ok (.ldc2_w 296, 3) := by decide +kernel
theorem dX5_isTemperature_13 : decode cX5_isTemperature 13 = .ok (.land, 1) := by decide +kernel
theorem dX5_isTemperature_14 : decode cX5_isTemperature 14 = .ok (.invokestatic 73, 3) := by decide +kernel
theorem dX5_isTemperature_17 : decode cX5_isTemperature 17 = .ok (.goto 10, 3) := by decide +kernel
theorem dX5_isTemperature_20 : decode cX5_isTemperature 20 = .ok (.ldc2_w 298, 3) := by decide +kernel
theorem dX5_isTemperature_23 : decode cX5_isTemperature 23 = .ok (.lload_n 0, 1) := by decide +kernel
theorem dX5_isTemperature_24 : decode cX5_isTemperature 24 = .ok (.invokestatic 73, 3) := by decide +kernel
theorem dX5_isTemperature_27 : decode cX5_isTemperature 27 = .ok (.ireturn, 1) := by decide +kernel
theorem dX5_numberOf_0 : decode cX5_numberOf 0 = .ok (.lload_n 0, 1) := by decide +kernel
theorem dX5_numberOf_1 : decode cX5_numberOf 1 = .ok (.bipush 52, 2) := by decide +kernel
theorem dX5_numberOf_3 : decode cX5_numberOf 3 = .ok (.lushr, 1) := by decide +kernel
theorem dX5_numberOf_4 : decode cX5_numberOf 4 = .ok (.l2i, 1) := by decide +kernel
theorem dX5_numberOf_5 : decode cX5_numberOf 5 = .ok (.sipush 2047, 3) := by decide +kernel
theorem dX5_numberOf_8 : decode cX5_numberOf 8 = .ok (.iand, 1) := by decide +kernel
theorem dX5_numberOf_9 : decode cX5_numberOf 9 = .ok (.istore_n 2, 1) := by decide +kernel
theorem dX5_numberOf_10 : decode cX5_numberOf 10 = .ok (.lload_n 0, 1) := by decide +kernel
theorem dX5_numberOf_11 : decode cX5_numberOf 11 = .ok (.ldc2_w 300, 3) := by decide +kernel
theorem dX5_numberOf_14 : decode cX5_numberOf 14 = .ok (.land, 1) := by decide +kernel
theorem dX5_numberOf_15 : decode cX5_numberOf 15 = .ok (.lstore_n 3, 1) := by decide +kernel
theorem dX5_numberOf_16 : decode cX5_numberOf 16 = .ok (.iload_n 2, 1) := by decide +kernel
theorem dX5_numberOf_17 : decode cX5_numberOf 17 = .ok (.ifCond .ne 17, 3) := by decide +kernel
theorem dX5_numberOf_20 : decode cX5_numberOf 20 = .ok (.lload_n 3, 1) := by decide +kernel
theorem dX5_numberOf_21 : decode cX5_numberOf 21 = .ok (.l2d, 1) := by decide +kernel
theorem dX5_numberOf_22 : decode cX5_numberOf 22 = .ok (.sipush 1074, 3) := by decide +kernel
theorem dX5_numberOf_25 : decode cX5_numberOf 25 = .ok (.invokestatic 302, 3) := by decide +kernel
theorem dX5_numberOf_28 : decode cX5_numberOf 28 = .ok (.dmul, 1) := by decide +kernel
theorem dX5_numberOf_29 : decode cX5_numberOf 29 = .ok (.dstore 5, 2) := by decide +kernel
theorem dX5_numberOf_31 : decode cX5_numberOf 31 = .ok (.goto 20, 3) := by decide +kernel
theorem dX5_numberOf_34 : decode cX5_numberOf 34 = .ok (.lload_n 3, 1) := by decide +kernel
theorem dX5_numberOf_35 : decode cX5_numberOf 35 = .ok (.ldc2_w 306, 3) := by decide +kernel
theorem dX5_numberOf_38 : decode cX5_numberOf 38 = .ok (.lor, 1) := by decide +kernel
theorem dX5_numberOf_39 : decode cX5_numberOf 39 = .ok (.l2d, 1) := by decide +kernel
theorem dX5_numberOf_40 : decode cX5_numberOf 40 = .ok (.sipush 1075, 3) := by decide +kernel
theorem dX5_numberOf_43 : decode cX5_numberOf 43 = .ok (.iload_n 2, 1) := by decide +kernel
theorem dX5_numberOf_44 : decode cX5_numberOf 44 = .ok (.isub, 1) := by decide +kernel
theorem dX5_numberOf_45 : decode cX5_numberOf 45 = .ok (.invokestatic 302, 3) := by decide +kernel
theorem dX5_numberOf_48 : decode cX5_numberOf 48 = .ok (.dmul, 1) := by decide +kernel
theorem dX5_numberOf_49 : decode cX5_numberOf 49 = .ok (.dstore 5, 2) := by decide +kernel
theorem dX5_numberOf_51 : decode cX5_numberOf 51 = .ok (.lload_n 0, 1) := by decide +kernel
theorem dX5_numberOf_52 : decode cX5_numberOf 52 = .ok (.lconst 0, 1) := by decide +kernel
theorem dX5_numberOf_53 : decode cX5_numberOf 53 = .ok (.lcmp, 1) := by decide +kernel
theorem dX5_numberOf_54 : decode cX5_numberOf 54 = .ok (.ifCond .ge 9, 3) := by decide +kernel
theorem dX5_numberOf_57 : decode cX5_numberOf 57 = .ok (.dload 5, 2) := by decide +kernel
theorem dX5_numberOf_59 : decode cX5_numberOf 59 = .ok (.dneg, 1) := by decide +kernel
theorem dX5_numberOf_60 : decode cX5_numberOf 60 = .ok (.goto 5, 3) := by decide +kernel
theorem dX5_numberOf_63 : decode cX5_numberOf 63 = .ok (.dload 5, 2) := by decide +kernel
theorem dX5_numberOf_65 : decode cX5_numberOf 65 = .ok (.dreturn, 1) := by decide +kernel
theorem dX5_halved_0 : decode cX5_halved 0 = .ok (.dconst 1, 1) := by decide +kernel
theorem dX5_halved_1 : decode cX5_halved 1 = .ok (.dstore_n 1, 1) := by decide +kernel
theorem dX5_halved_2 : decode cX5_halved 2 = .ok (.ldc2_w 308, 3) := by decide +kernel
theorem dX5_halved_5 : decode cX5_halved 5 = .ok (.dstore_n 3, 1) := by decide +kernel
theorem dX5_halved_6 : decode cX5_halved 6 = .ok (.iconst 0, 1) := by decide +kernel
theorem dX5_halved_7 : decode cX5_halved 7 = .ok (.istore 5, 2) := by decide +kernel
theorem dX5_halved_9 : decode cX5_halved 9 = .ok (.iload 5, 2) := by decide +kernel
theorem dX5_halved_11 : decode cX5_halved 11 = .ok (.bipush 11, 2) := by decide +kernel
theorem dX5_halved_13 : decode cX5_halved 13 = .ok (.if_icmp .ge 26, 3) := by decide +kernel
theorem dX5_halved_16 : decode cX5_halved 16 = .ok (.iload_n 0, 1) := by decide +kernel
theorem dX5_halved_17 : decode cX5_halved 17 = .ok (.iload 5, 2) := by decide +kernel
theorem dX5_halved_19 : decode cX5_halved 19 = .ok (.ishr, 1) := by decide +kernel
theorem dX5_halved_20 : decode cX5_halved 20 = .ok (.iconst 1, 1) := by decide +kernel
theorem dX5_halved_21 : decode cX5_halved 21 = .ok (.iand, 1) := by decide +kernel
theorem dX5_halved_22 : decode cX5_halved 22 = .ok (.ifCond .eq 7, 3) := by decide +kernel
theorem dX5_halved_25 : decode cX5_halved 25 = .ok (.dload_n 1, 1) := by decide +kernel
theorem dX5_halved_26 : decode cX5_halved 26 = .ok (.dload_n 3, 1) := by decide +kernel
theorem dX5_halved_27 : decode cX5_halved 27 = .ok (.dmul, 1) := by decide +kernel
theorem dX5_halved_28 : decode cX5_halved 28 = .ok (.dstore_n 1, 1) := by decide +kernel
theorem dX5_halved_29 : decode cX5_halved 29 = .ok (.dload_n 3, 1) := by decide +kernel
theorem dX5_halved_30 : decode cX5_halved 30 = .ok (.dload_n 3, 1) := by decide +kernel
theorem dX5_halved_31 : decode cX5_halved 31 = .ok (.dmul, 1) := by decide +kernel
theorem dX5_halved_32 : decode cX5_halved 32 = .ok (.dstore_n 3, 1) := by decide +kernel
theorem dX5_halved_33 : decode cX5_halved 33 = .ok (.iinc 5 1, 3) := by decide +kernel
theorem dX5_halved_36 : decode cX5_halved 36 = .ok (.goto (-27), 3) := by decide +kernel
theorem dX5_halved_39 : decode cX5_halved 39 = .ok (.dload_n 1, 1) := by decide +kernel
theorem dX5_halved_40 : decode cX5_halved 40 = .ok (.dreturn, 1) := by decide +kernel
theorem dX5_noNumber_0 : decode cX5_noNumber 0 = .ok (.ldc2_w 310, 3) := by decide +kernel
theorem dX5_noNumber_3 : decode cX5_noNumber 3 = .ok (.dreturn, 1) := by decide +kernel
theorem dX6_init_0 : decode cX6_init 0 = .ok (.aload_n 0, 1) := by decide +kernel
theorem dX6_init_1 : decode cX6_init 1 = .ok (.invokespecial 1, 3) := by decide +kernel
theorem dX6_init_4 : decode cX6_init 4 = .ok (.aload_n 0, 1) := by decide +kernel
theorem dX6_init_5 : decode cX6_init 5 = .ok (.sipush 180, 3) := by decide +kernel
theorem dX6_init_8 : decode cX6_init 8 = .ok (.newarray .int, 2) := by decide +kernel
theorem dX6_init_10 : decode cX6_init 10 = .ok (.putfield 7, 3) := by decide +kernel
theorem dX6_init_13 : decode cX6_init 13 = .ok (.aload_n 0, 1) := by decide +kernel
theorem dX6_init_14 : decode cX6_init 14 = .ok (.sipush 900, 3) := by decide +kernel
theorem dX6_init_17 : decode cX6_init 17 = .ok (.newarray .int, 2) := by decide +kernel
theorem dX6_init_19 : decode cX6_init 19 = .ok (.putfield 13, 3) := by decide +kernel
theorem dX6_init_22 : decode cX6_init 22 = .ok (.aload_n 0, 1) := by decide +kernel
theorem dX6_init_23 : decode cX6_init 23 = .ok (.sipush 180, 3) := by decide +kernel
theorem dX6_init_26 : decode cX6_init 26 = .ok (.newarray .int, 2) := by decide +kernel
theorem dX6_init_28 : decode cX6_init 28 = .ok (.putfield 16, 3) := by decide +kernel
theorem dX6_init_31 : decode cX6_init 31 = .ok (.aload_n 0, 1) := by decide +kernel
theorem dX6_init_32 : decode cX6_init 32 = .ok (.bipush 17, 2) := by decide +kernel
theorem dX6_init_34 : decode cX6_init 34 = .ok (.newarray .double, 2) := by decide +kernel
theorem dX6_init_36 : decode cX6_init 36 = .ok (.putfield 19, 3) := by decide +kernel
theorem dX6_init_39 : decode cX6_init 39 = .ok (.aload_n 0, 1) := by decide +kernel
theorem dX6_init_40 : decode cX6_init 40 = .ok (.bipush 85, 2) := by decide +kernel
theorem dX6_init_42 : decode cX6_init 42 = .ok (.newarray .double, 2) := by decide +kernel
theorem dX6_init_44 : decode cX6_init 44 = .ok (.putfield 23, 3) := by decide +kernel
theorem dX6_init_47 : decode cX6_init 47 = .ok (.aload_n 0, 1) := by decide +kernel
theorem dX6_init_48 : decode cX6_init 48 = .ok (.bipush 17, 2) := by decide +kernel
theorem dX6_init_50 : decode cX6_init 50 = .ok (.newarray .double, 2) := by decide +kernel
theorem dX6_init_52 : decode cX6_init 52 = .ok (.putfield 26, 3) := by decide +kernel
theorem dX6_init_55 : decode cX6_init 55 = .ok (.aload_n 0, 1) := by decide +kernel
theorem dX6_init_56 : decode cX6_init 56 = .ok (.bipush 40, 2) := by decide +kernel
theorem dX6_init_58 : decode cX6_init 58 = .ok (.newarray .char, 2) := by decide +kernel
theorem dX6_init_60 : decode cX6_init 60 = .ok (.putfield 29, 3) := by decide +kernel
theorem dX6_init_63 : decode cX6_init 63 = .ok (.return_, 1) := by decide +kernel
theorem dX6_in_0 : decode cX6_in 0 = .ok (.iload_n 0, 1) := by decide +kernel
theorem dX6_in_1 : decode cX6_in 1 = .ok (.iload_n 1, 1) := by decide +kernel
theorem dX6_in_2 : decode cX6_in 2 = .ok (.if_icmp .lt 12, 3) := by decide +kernel
theorem dX6_in_5 : decode cX6_in 5 = .ok (.iload_n 0, 1) := by decide +kernel
theorem dX6_in_6 : decode cX6_in 6 = .ok (.iload_n 2, 1) := by decide +kernel
theorem dX6_in_7 : decode cX6_in 7 = .ok (.if_icmp .gt 7, 3) := by decide +kernel
theorem dX6_in_10 : decode cX6_in 10 = .ok (.iconst 1, 1) := by decide +kernel
theorem dX6_in_11 : decode cX6_in 11 = .ok (.goto 4, 3) := by decide +kernel
theorem dX6_in_14 : decode cX6_in 14 = .ok (.iconst 0, 1) := by decide +kernel
theorem dX6_in_15 : decode cX6_in 15 = .ok (.ireturn, 1) := by decide +kernel
theorem dX6_record_0 : decode cX6_record 0 = .ok (.aload_n 0, 1) := by decide +kernel
theorem dX6_record_1 : decode cX6_record 1 = .ok (.getfield 33, 3) := by decide +kernel
theorem dX6_record_4 : decode cX6_record 4 = .ok (.iconst 5, 1) := by decide +kernel
theorem dX6_record_5 : decode cX6_record 5 = .ok (.if_icmp .ne 73, 3) := by decide +kernel
theorem dX6_record_8 : decode cX6_record 8 = .ok (.iconst 0, 1) := by decide +kernel
theorem dX6_record_9 : decode cX6_record 9 = .ok (.istore_n 1, 1) := by decide +kernel
theorem dX6_record_10 : decode cX6_record 10 = .ok (.iload_n 1, 1) := by decide +kernel
theorem dX6_record_11 : decode cX6_record 11 = .ok (.sipush 720, 3) := by decide +kernel
theorem dX6_record_14 : decode cX6_record 14 = .ok (.if_icmp .ge 25, 3) := by decide +kernel
theorem dX6_record_17 : decode cX6_record 17 = .ok (.aload_n 0, 1) := by decide +kernel
theorem dX6_record_18 : decode cX6_record 18 = .ok (.getfield 13, 3) := by decide +kernel
theorem dX6_record_21 : decode cX6_record 21 = .ok (.iload_n 1, 1) := by decide +kernel
theorem dX6_record_22 : decode cX6_record 22 = .ok (.aload_n 0, 1) := by decide +kernel
theorem dX6_record_23 : decode cX6_record 23 = .ok (.getfield 13, 3) := by decide +kernel
theorem dX6_record_26 : decode cX6_record 26 = .ok (.iload_n 1, 1) := by decide +kernel
theorem dX6_record_27 : decode cX6_record 27 = .ok (.sipush 180, 3) := by decide +kernel
theorem dX6_record_30 : decode cX6_record 30 = .ok (.iadd, 1) := by decide +kernel
theorem dX6_record_31 : decode cX6_record 31 = .ok (.iaload, 1) := by decide +kernel
theorem dX6_record_32 : decode cX6_record 32 = .ok (.iastore, 1) := by decide +kernel
theorem dX6_record_33 : decode cX6_record 33 = .ok (.iinc 1 1, 3) := by decide +kernel
theorem dX6_record_36 : decode cX6_record 36 = .ok (.goto (-26), 3) := by decide +kernel
theorem dX6_record_39 : decode cX6_record 39 = .ok (.iconst 0, 1) := by decide +kernel
theorem dX6_record_40 : decode cX6_record 40 = .ok (.istore_n 1, 1) := by decide +kernel
theorem dX6_record_41 : decode cX6_record 41 = .ok (.iload_n 1, 1) := by decide +kernel
theorem dX6_record_42 : decode cX6_record 42 = .ok (.bipush 68, 2) := by decide +kernel
theorem dX6_record_44 : decode cX6_record 44 = .ok (.if_icmp .ge 24, 3) := by decide +kernel
theorem dX6_record_47 : decode cX6_record 47 = .ok (.aload_n 0, 1) := by decide +kernel
theorem dX6_record_48 : decode cX6_record 48 = .ok (.getfield 23, 3) := by decide +kernel
theorem dX6_record_51 : decode cX6_record 51 = .ok (.iload_n 1, 1) := by decide +kernel
theorem dX6_record_52 : decode cX6_record 52 = .ok (.aload_n 0, 1) := by decide +kernel
theorem dX6_record_53 : decode cX6_record 53 = .ok (.getfield 23, 3) := by decide +kernel
theorem dX6_record_56 : decode cX6_record 56 = .ok (.iload_n 1, 1) := by decide +kernel
theorem dX6_record_57 : decode cX6_record 57 = .ok (.bipush 17, 2) := by decide +kernel
theorem dX6_record_59 : decode cX6_record 59 = .ok (.iadd, 1) := by decide +kernel
theorem dX6_record_60 : decode cX6_record 60 = .ok (.daload, 1) := by decide +kernel
theorem dX6_record_61 : decode cX6_record 61 = .ok (.dastore, 1) := by decide +kernel
theorem dX6_record_62 : decode cX6_record 62 = .ok (.iinc 1 1, 3) := by decide +kernel
theorem dX6_record_65 : decode cX6_record 65 = .ok (.goto (-24), 3) := by decide +kernel
theorem dX6_record_68 : decode cX6_record 68 = .ok (.aload_n 0, 1) := by decide +kernel
theorem dX6_record_69 : decode cX6_record 69 = .ok (.dup, 1) := by decide +kernel
theorem dX6_record_70 : decode cX6_record 70 = .ok (.getfield 33, 3) := by decide +kernel
theorem dX6_record_73 : decode cX6_record 73 = .ok (.iconst 1, 1) := by decide +kernel
theorem dX6_record_74 : decode cX6_record 74 = .ok (.isub, 1) := by decide +kernel
theorem dX6_record_75 : decode cX6_record 75 = .ok (.putfield 33, 3) := by decide +kernel
theorem dX6_record_78 : decode cX6_record 78 = .ok (.iconst 0, 1) := by decide +kernel
theorem dX6_record_79 : decode cX6_record 79 = .ok (.istore_n 1, 1) := by decide +kernel
theorem dX6_record_80 : decode cX6_record 80 = .ok (.iload_n 1, 1) := by decide +kernel
theorem dX6_record_81 : decode cX6_record 81 = .ok (.sipush 180, 3) := by decide +kernel
theorem dX6_record_84 : decode cX6_record 84 = .ok (.if_icmp .ge 30, 3) := by decide +kernel
theorem dX6_record_87 : decode cX6_record 87 = .ok (.aload_n 0, 1) := by decide +kernel
theorem dX6_record_88 : decode cX6_record 88 = .ok (.getfield 13, 3) := by decide +kernel
theorem dX6_record_91 : decode cX6_record 91 = .ok (.sipush 180, 3) := by decide +kernel
theorem dX6_record_94 : decode cX6_record 94 = .ok (.aload_n 0, 1) := by decide +kernel
theorem dX6_record_95 : decode cX6_record 95 = .ok (.getfield 33, 3) := by decide +kernel
theorem dX6_record_98 : decode cX6_record 98 = .ok (.imul, 1) := by decide +kernel
theorem dX6_record_99 : decode cX6_record 99 = .ok (.iload_n 1, 1) := by decide +kernel
theorem dX6_record_100 : decode cX6_record 100 = .ok (.iadd, 1) := by decide +kernel
theorem dX6_record_101 : decode cX6_record 101 = .ok (.aload_n 0, 1) := by decide +kernel
theorem dX6_record_102 : decode cX6_record 102 = .ok (.getfield 7, 3) := by decide +kernel
theorem dX6_record_105 : decode cX6_record 105 = .ok (.iload_n 1, 1) := by decide +kernel
theorem dX6_record_106 : decode cX6_record 106 = .ok (.iaload, 1) := by decide +kernel
theorem dX6_record_107 : decode cX6_record 107 = .ok (.iastore, 1) := by decide +kernel
theorem dX6_record_108 : decode cX6_record 108 = .ok (.iinc 1 1, 3) := by decide +kernel
theorem dX6_record_111 : decode cX6_record 111 = .ok (.goto (-31), 3) := by decide +kernel
theorem dX6_record_114 : decode cX6_record 114 = .ok (.iconst 0, 1) := by decide +kernel
theorem dX6_record_115 : decode cX6_record 115 = .ok (.istore_n 1, 1) := by decide +kernel
theorem dX6_record_116 : decode cX6_record 116 = .ok (.iload_n 1, 1) := by decide +kernel
theorem dX6_record_117 : decode cX6_record 117 = .ok (.bipush 17, 2) := by decide +kernel
theorem dX6_record_119 : decode cX6_record 119 = .ok (.if_icmp .ge 29, 3) := by decide +kernel
theorem dX6_record_122 : decode cX6_record 122 = .ok (.aload_n 0, 1) := by decide +kernel
theorem dX6_record_123 : decode cX6_record 123 = .ok (.getfield 23, 3) := by decide +kernel
theorem dX6_record_126 : decode cX6_record 126 = .ok (.bipush 17, 2) := by decide +kernel
theorem dX6_record_128 : decode cX6_record 128 = .ok (.aload_n 0, 1) := by decide +kernel
theorem dX6_record_129 : decode cX6_record 129 = .ok (.getfield 33, 3) := by decide +kernel
theorem dX6_record_132 : decode cX6_record 132 = .ok (.imul, 1) := by decide +kernel
theorem dX6_record_133 : decode cX6_record 133 = .ok (.iload_n 1, 1) := by decide +kernel
theorem dX6_record_134 : decode cX6_record 134 = .ok (.iadd, 1) := by decide +kernel
theorem dX6_record_135 : decode cX6_record 135 = .ok (.aload_n 0, 1) := by decide +kernel
theorem dX6_record_136 : decode cX6_record 136 = .ok (.getfield 19, 3) := by decide +kernel
theorem dX6_record_139 : decode cX6_record 139 = .ok (.iload_n 1, 1) := by decide +kernel
theorem dX6_record_140 : decode cX6_record 140 = .ok (.daload, 1) := by decide +kernel
theorem dX6_record_141 : decode cX6_record 141 = .ok (.dastore, 1) := by decide +kernel
theorem dX6_record_142 : decode cX6_record 142 = .ok (.iinc 1 1, 3) := by decide +kernel
theorem dX6_record_145 : decode cX6_record 145 = .ok (.goto (-29), 3) := by decide +kernel
theorem dX6_record_148 : decode cX6_record 148 = .ok (.aload_n 0, 1) := by decide +kernel
theorem dX6_record_149 : decode cX6_record 149 = .ok (.dup, 1) := by decide +kernel
theorem dX6_record_150 : decode cX6_record 150 = .ok (.getfield 33, 3) := by decide +kernel
theorem dX6_record_153 : decode cX6_record 153 = .ok (.iconst 1, 1) := by decide +kernel
theorem dX6_record_154 : decode cX6_record 154 = .ok (.iadd, 1) := by decide +kernel
theorem dX6_record_155 : decode cX6_record 155 = .ok (.putfield 33, 3) := by decide +kernel
theorem dX6_record_158 : decode cX6_record 158 = .ok (.return_, 1) := by decide +kernel
theorem dX6_noGuide_0 : decode cX6_noGuide 0 = .ok (.iload_n 1, 1) := by decide +kernel
theorem dX6_noGuide_1 : decode cX6_noGuide 1 = .ok (.iconst 0, 1) := by decide +kernel
theorem dX6_noGuide_2 : decode cX6_noGuide 2 = .ok (.aload_n 0, 1) := by decide +kernel
theorem dX6_noGuide_3 : decode cX6_noGuide 3 = .ok (.getfield 7, 3) := by decide +kernel
theorem dX6_noGuide_6 : decode cX6_noGuide 6 = .ok (.iconst 1, 1) := by decide +kernel
theorem dX6_noGuide_7 : decode cX6_noGuide 7 = .ok (.iaload, 1) := by decide +kernel
theorem dX6_noGuide_8 : decode cX6_noGuide 8 = .ok (.iconst 1, 1) := by decide +kernel
theorem dX6_noGuide_9 : decode cX6_noGuide 9 = .ok (.isub, 1) := by decide +kernel
theorem dX6_noGuide_10 : decode cX6_noGuide 10 = .ok (.invokestatic 37, 3) := by decide +kernel
theorem dX6_noGuide_13 : decode cX6_noGuide 13 = .ok (.ifCond .ne 7, 3) := by decide +kernel
theorem dX6_noGuide_16 : decode cX6_noGuide 16 = .ok (.iconst 1, 1) := by decide +kernel
theorem dX6_noGuide_17 : decode cX6_noGuide 17 = .ok (.goto 4, 3) := by decide +kernel
theorem dX6_noGuide_20 : decode cX6_noGuide 20 = .ok (.iconst 0, 1) := by decide +kernel
theorem dX6_noGuide_21 : decode cX6_noGuide 21 = .ok (.ireturn, 1) := by decide +kernel
theorem dX6_noBridge_0 : decode cX6_noBridge 0 = .ok (.iload_n 1, 1) := by decide +kernel
theorem dX6_noBridge_1 : decode cX6_noBridge 1 = .ok (.iconst 0, 1) := by decide +kernel
theorem dX6_noBridge_2 : decode cX6_noBridge 2 = .ok (.aload_n 0, 1) := by decide +kernel
theorem dX6_noBridge_3 : decode cX6_noBridge 3 = .ok (.getfield 7, 3) := by decide +kernel
theorem dX6_noBridge_6 : decode cX6_noBridge 6 = .ok (.iconst 2, 1) := by decide +kernel
theorem dX6_noBridge_7 : decode cX6_noBridge 7 = .ok (.iaload, 1) := by decide +kernel
theorem dX6_noBridge_8 : decode cX6_noBridge 8 = .ok (.iconst 1, 1) := by decide +kernel
theorem dX6_noBridge_9 : decode cX6_noBridge 9 = .ok (.isub, 1) := by decide +kernel
theorem dX6_noBridge_10 : decode cX6_noBridge 10 = .ok (.invokestatic 37, 3) := by decide +kernel
theorem dX6_noBridge_13 : decode cX6_noBridge 13 = .ok (.ifCond .ne 7, 3) := by decide +kernel
theorem dX6_noBridge_16 : decode cX6_noBridge 16 = .ok (.iconst 1, 1) := by decide +kernel
theorem dX6_noBridge_17 : decode cX6_noBridge 17 = .ok (.goto 4, 3) := by decide +kernel
theorem dX6_noBridge_20 : decode cX6_noBridge 20 = .ok (.iconst 0, 1) := by decide +kernel
theorem dX6_noBridge_21 : decode cX6_noBridge 21 = .ok (.ireturn, 1) := by decide +kernel
theorem dX6_noTour_0 : decode cX6_noTour 0 = .ok (.iload_n 1, 1) := by decide +kernel
theorem dX6_noTour_1 : decode cX6_noTour 1 = .ok (.iconst 0, 1) := by decide +kernel
theorem dX6_noTour_2 : decode cX6_noTour 2 = .ok (.aload_n 0, 1) := by decide +kernel
theorem dX6_noTour_3 : decode cX6_noTour 3 = .ok (.getfield 7, 3) := by decide +kernel
theorem dX6_noTour_6 : decode cX6_noTour 6 = .ok (.iconst 3, 1) := by decide +kernel
theorem dX6_noTour_7 : decode cX6_noTour 7 = .ok (.iaload, 1) := by decide +kernel
theorem dX6_noTour_8 : decode cX6_noTour 8 = .ok (.iconst 1, 1) := by decide +kernel
theorem dX6_noTour_9 : decode cX6_noTour 9 = .ok (.isub, 1) := by decide +kernel
theorem dX6_noTour_10 : decode cX6_noTour 10 = .ok (.invokestatic 37, 3) := by decide +kernel
theorem dX6_noTour_13 : decode cX6_noTour 13 = .ok (.ifCond .ne 7, 3) := by decide +kernel
theorem dX6_noTour_16 : decode cX6_noTour 16 = .ok (.iconst 1, 1) := by decide +kernel
theorem dX6_noTour_17 : decode cX6_noTour 17 = .ok (.goto 4, 3) := by decide +kernel
theorem dX6_noTour_20 : decode cX6_noTour 20 = .ok (.iconst 0, 1) := by decide +kernel
theorem dX6_noTour_21 : decode cX6_noTour 21 = .ok (.ireturn, 1) := by decide +kernel
theorem dX6_ofGuide_0 : decode cX6_ofGuide 0 = .ok (.aload_n 0, 1) := by decide +kernel
theorem dX6_ofGuide_1 : decode cX6_ofGuide 1 = .ok (.getfield 7, 3) := by decide +kernel
theorem dX6_ofGuide_4 : decode cX6_ofGuide 4 = .ok (.bipush 8, 2) := by decide +kernel
theorem dX6_ofGuide_6 : decode cX6_ofGuide 6 = .ok (.iconst 4, 1) := by decide +kernel
theorem dX6_ofGuide_7 : decode cX6_ofGuide 7 = .ok (.iload_n 1, 1) := by decide +kernel
theorem dX6_ofGuide_8 : decode cX6_ofGuide 8 = .ok (.imul, 1) := by decide +kernel
theorem dX6_ofGuide_9 : decode cX6_ofGuide 9 = .ok (.iadd, 1) := by decide +kernel
theorem dX6_ofGuide_10 : decode cX6_ofGuide 10 = .ok (.iload_n 2, 1) := by decide +kernel
theorem dX6_ofGuide_11 : decode cX6_ofGuide 11 = .ok (.iadd, 1) := by decide +kernel
theorem dX6_ofGuide_12 : decode cX6_ofGuide 12 = .ok (.iaload, 1) := by decide +kernel
theorem dX6_ofGuide_13 : decode cX6_ofGuide 13 = .ok (.ireturn, 1) := by decide +kernel
theorem dX6_of_0 : decode cX6_of 0 = .ok (.aload_n 0, 1) := by decide +kernel
theorem dX6_of_1 : decode cX6_of 1 = .ok (.getfield 7, 3) := by decide +kernel
theorem dX6_of_4 : decode cX6_of 4 = .ok (.bipush 40, 2) := by decide +kernel
theorem dX6_of_6 : decode cX6_of 6 = .ok (.bipush 14, 2) := by decide +kernel
theorem dX6_of_8 : decode cX6_of 8 = .ok (.iload_n 1, 1) := by decide +kernel
theorem dX6_of_9 : decode cX6_of 9 = .ok (.imul, 1) := by decide +kernel
theorem dX6_of_10 : decode cX6_of 10 = .ok (.iadd, 1) := by decide +kernel
theorem dX6_of_11 : decode cX6_of 11 = .ok (.iload_n 2, 1) := by decide +kernel
theorem dX6_of_12 : decode cX6_of 12 = .ok (.iadd, 1) := by decide +kernel
theorem dX6_of_13 : decode cX6_of 13 = .ok (.iaload, 1) := by decide +kernel
theorem dX6_of_14 : decode cX6_of 14 = .ok (.ireturn, 1) := by decide +kernel
theorem dX6_to_0 : decode cX6_to 0 = .ok (.aload_n 0, 1) := by decide +kernel
theorem dX6_to_1 : decode cX6_to 1 = .ok (.getfield 7, 3) := by decide +kernel
theorem dX6_to_4 : decode cX6_to 4 = .ok (.bipush 40, 2) := by decide +kernel
theorem dX6_to_6 : decode cX6_to 6 = .ok (.bipush 14, 2) := by decide +kernel
theorem dX6_to_8 : decode cX6_to 8 = .ok (.iload_n 1, 1) := by decide +kernel
theorem dX6_to_9 : decode cX6_to 9 = .ok (.imul, 1) := by decide +kernel
theorem dX6_to_10 : decode cX6_to 10 = .ok (.iadd, 1) := by decide +kernel
theorem dX6_to_11 : decode cX6_to 11 = .ok (.iload_n 2, 1) := by decide +kernel
theorem dX6_to_12 : decode cX6_to 12 = .ok (.iadd, 1) := by decide +kernel
theorem dX6_to_13 : decode cX6_to 13 = .ok (.iload_n 3, 1) := by decide +kernel
theorem dX6_to_14 : decode cX6_to 14 = .ok (.iastore, 1) := by decide +kernel
theorem dX6_to_15 : decode cX6_to 15 = .ok (.return_, 1) := by decide +kernel
theorem dX6_isOpen_0 : decode cX6_isOpen 0 = .ok (.aload_n 0, 1) := by decide +kernel
theorem dX6_isOpen_1 : decode cX6_isOpen 1 = .ok (.iload_n 1, 1) := by decide +kernel
theorem dX6_isOpen_2 : decode cX6_isOpen 2 = .ok (.bipush 6, 2) := by decide +kernel
theorem dX6_isOpen_4 : decode cX6_isOpen 4 = .ok (.invokevirtual 41, 3) := by decide +kernel
theorem dX6_isOpen_7 : decode cX6_isOpen 7 = .ok (.ifCond .ne 7, 3) := by decide +kernel
theorem dX6_isOpen_10 : decode cX6_isOpen 10 = .ok (.iconst 1, 1) := by decide +kernel
theorem dX6_isOpen_11 : decode cX6_isOpen 11 = .ok (.goto 4, 3) := by decide +kernel
theorem dX6_isOpen_14 : decode cX6_isOpen 14 = .ok (.iconst 0, 1) := by decide +kernel
theorem dX6_isOpen_15 : decode cX6_isOpen 15 = .ok (.ireturn, 1) := by decide +kernel
theorem dX6_isCertificate_0 : decode cX6_isCertificate 0 = .ok (.iload_n 0, 1) := by decide +kernel
theorem dX6_isCertificate_1 : decode cX6_isCertificate 1 = .ok (.iconst 1, 1) := by decide +kernel
theorem dX6_isCertificate_2 : decode cX6_isCertificate 2 = .ok (.iconst 3, 1) := by decide +kernel
theorem dX6_isCertificate_3 : decode cX6_isCertificate 3 = .ok (.invokestatic 37, 3) := by decide +kernel
theorem dX6_isCertificate_6 : decode cX6_isCertificate 6 = .ok (.ifCond .eq 18, 3) := by decide +kernel
theorem dX6_isCertificate_9 : decode cX6_isCertificate 9 = .ok (.iload_n 1, 1) := by decide +kernel
theorem dX6_isCertificate_10 : decode cX6_isCertificate 10 = .ok (.iconst 0, 1) := by decide +kernel
theorem dX6_isCertificate_11 : decode cX6_isCertificate 11 = .ok (.sipush 999, 3) := by decide +kernel
theorem dX6_isCertificate_14 : decode cX6_isCertificate 14 = .ok (.invokestatic 37, 3) := by decide +kernel
theorem dX6_isCertificate_17 : decode cX6_isCertificate 17 = .ok (.ifCond .eq 7, 3) := by decide +kernel
theorem dX6_isCertificate_20 : decode cX6_isCertificate 20 = .ok (.iconst 1, 1) := by decide +kernel
theorem dX6_isCertificate_21 : decode cX6_isCertificate 21 = .ok (.goto 4, 3) := by decide +kernel
theorem dX6_isCertificate_24 : decode cX6_isCertificate 24 = .ok (.iconst 0, 1) := by decide +kernel
theorem dX6_isCertificate_25 : decode cX6_isCertificate 25 = .ok (.ireturn, 1) := by decide +kernel
theorem dX6_addGuide_0 : decode cX6_addGuide 0 = .ok (.iload_n 1, 1) := by decide +kernel
theorem dX6_addGuide_1 : decode cX6_addGuide 1 = .ok (.iload_n 2, 1) := by decide +kernel
theorem dX6_addGuide_2 : decode cX6_addGuide 2 = .ok (.invokestatic 45, 3) := by decide +kernel
theorem dX6_addGuide_5 : decode cX6_addGuide 5 = .ok (.ifCond .ne 6, 3) := by decide +kernel
theorem dX6_addGuide_8 : decode cX6_addGuide 8 = .ok (.bipush (-2), 2) := by decide +kernel
theorem dX6_addGuide_10 : decode cX6_addGuide 10 = .ok (.ireturn, 1) := by decide +kernel
theorem dX6_addGuide_11 : decode cX6_addGuide 11 = .ok (.aload_n 0, 1) := by decide +kernel
theorem dX6_addGuide_12 : decode cX6_addGuide 12 = .ok (.getfield 7, 3) := by decide +kernel
theorem dX6_addGuide_15 : decode cX6_addGuide 15 = .ok (.iconst 1, 1) := by decide +kernel
theorem dX6_addGuide_16 : decode cX6_addGuide 16 = .ok (.iaload, 1) := by decide +kernel
theorem dX6_addGuide_17 : decode cX6_addGuide 17 = .ok (.bipush 8, 2) := by decide +kernel
theorem dX6_addGuide_19 : decode cX6_addGuide 19 = .ok (.if_icmp .ne 6, 3) := by decide +kernel
theorem dX6_addGuide_22 : decode cX6_addGuide 22 = .ok (.bipush (-3), 2) := by decide +kernel
theorem dX6_addGuide_24 : decode cX6_addGuide 24 = .ok (.ireturn, 1) := by decide +kernel
theorem dX6_addGuide_25 : decode cX6_addGuide 25 = .ok (.aload_n 0, 1) := by decide +kernel
theorem dX6_addGuide_26 : decode cX6_addGuide 26 = .ok (.invokevirtual 49, 3) := by decide +kernel
theorem dX6_addGuide_29 : decode cX6_addGuide 29 = .ok (.aload_n 0, 1) := by decide +kernel
theorem dX6_addGuide_30 : decode cX6_addGuide 30 = .ok (.getfield 7, 3) := by decide +kernel
theorem dX6_addGuide_33 : decode cX6_addGuide 33 = .ok (.iconst 1, 1) := by decide +kernel
theorem dX6_addGuide_34 : decode cX6_addGuide 34 = .ok (.iaload, 1) := by decide +kernel
theorem dX6_addGuide_35 : decode cX6_addGuide 35 = .ok (.istore_n 3, 1) := by decide +kernel
theorem dX6_addGuide_36 : decode cX6_addGuide 36 = .ok (.aload_n 0, 1) := by decide +kernel
theorem dX6_addGuide_37 : decode cX6_addGuide 37 = .ok (.getfield 7, 3) := by decide +kernel
theorem dX6_addGuide_40 : decode cX6_addGuide 40 = .ok (.iconst 1, 1) := by decide +kernel
theorem dX6_addGuide_41 : decode cX6_addGuide 41 = .ok (.dup2, 1) := by decide +kernel
theorem dX6_addGuide_42 : decode cX6_addGuide 42 = .ok (.iaload, 1) := by decide +kernel
theorem dX6_addGuide_43 : decode cX6_addGuide 43 = .ok (.iconst 1, 1) := by decide +kernel
theorem dX6_addGuide_44 : decode cX6_addGuide 44 = .ok (.iadd, 1) := by decide +kernel
theorem dX6_addGuide_45 : decode cX6_addGuide 45 = .ok (.iastore, 1) := by decide +kernel
theorem dX6_addGuide_46 : decode cX6_addGuide 46 = .ok (.aload_n 0, 1) := by decide +kernel
theorem dX6_addGuide_47 : decode cX6_addGuide 47 = .ok (.getfield 7, 3) := by decide +kernel
theorem dX6_addGuide_50 : decode cX6_addGuide 50 = .ok (.bipush 8, 2) := by decide +kernel
theorem dX6_addGuide_52 : decode cX6_addGuide 52 = .ok (.iconst 4, 1) := by decide +kernel
theorem dX6_addGuide_53 : decode cX6_addGuide 53 = .ok (.iload_n 3, 1) := by decide +kernel
theorem dX6_addGuide_54 : decode cX6_addGuide 54 = .ok (.imul, 1) := by decide +kernel
theorem dX6_addGuide_55 : decode cX6_addGuide 55 = .ok (.iadd, 1) := by decide +kernel
theorem dX6_addGuide_56 : decode cX6_addGuide 56 = .ok (.iconst 0, 1) := by decide +kernel
theorem dX6_addGuide_57 : decode cX6_addGuide 57 = .ok (.iadd, 1) := by decide +kernel
theorem dX6_addGuide_58 : decode cX6_addGuide 58 = .ok (.iload_n 1, 1) := by decide +kernel
theorem dX6_addGuide_59 : decode cX6_addGuide 59 = .ok (.iastore, 1) := by decide +kernel
theorem dX6_addGuide_60 : decode cX6_addGuide 60 = .ok (.aload_n 0, 1) := by decide +kernel
theorem dX6_addGuide_61 : decode cX6_addGuide 61 = .ok (.getfield 7, 3) := by decide +kernel
theorem dX6_addGuide_64 : decode cX6_addGuide 64 = .ok (.bipush 8, 2) := by decide +kernel
theorem dX6_addGuide_66 : decode cX6_addGuide 66 = .ok (.iconst 4, 1) := by decide +kernel
theorem dX6_addGuide_67 : decode cX6_addGuide 67 = .ok (.iload_n 3, 1) := by decide +kernel
theorem dX6_addGuide_68 : decode cX6_addGuide 68 = .ok (.imul, 1) := by decide +kernel
theorem dX6_addGuide_69 : decode cX6_addGuide 69 = .ok (.iadd, 1) := by decide +kernel
theorem dX6_addGuide_70 : decode cX6_addGuide 70 = .ok (.iconst 1, 1) := by decide +kernel
theorem dX6_addGuide_71 : decode cX6_addGuide 71 = .ok (.iadd, 1) := by decide +kernel
theorem dX6_addGuide_72 : decode cX6_addGuide 72 = .ok (.iload_n 2, 1) := by decide +kernel
theorem dX6_addGuide_73 : decode cX6_addGuide 73 = .ok (.iastore, 1) := by decide +kernel
theorem dX6_addGuide_74 : decode cX6_addGuide 74 = .ok (.aload_n 0, 1) := by decide +kernel
theorem dX6_addGuide_75 : decode cX6_addGuide 75 = .ok (.getfield 7, 3) := by decide +kernel
theorem dX6_addGuide_78 : decode cX6_addGuide 78 = .ok (.bipush 8, 2) := by decide +kernel
theorem dX6_addGuide_80 : decode cX6_addGuide 80 = .ok (.iconst 4, 1) := by decide +kernel
theorem dX6_addGuide_81 : decode cX6_addGuide 81 = .ok (.iload_n 3, 1) := by decide +kernel
theorem dX6_addGuide_82 : decode cX6_addGuide 82 = .ok (.imul, 1) := by decide +kernel
theorem dX6_addGuide_83 : decode cX6_addGuide 83 = .ok (.iadd, 1) := by decide +kernel
theorem dX6_addGuide_84 : decode cX6_addGuide 84 = .ok (.iconst 2, 1) := by decide +kernel
theorem dX6_addGuide_85 : decode cX6_addGuide 85 = .ok (.iadd, 1) := by decide +kernel
theorem dX6_addGuide_86 : decode cX6_addGuide 86 = .ok (.iconst 0, 1) := by decide +kernel
theorem dX6_addGuide_87 : decode cX6_addGuide 87 = .ok (.iastore, 1) := by decide +kernel
theorem dX6_addGuide_88 : decode cX6_addGuide 88 = .ok (.aload_n 0, 1) := by decide +kernel
theorem dX6_addGuide_89 : decode cX6_addGuide 89 = .ok (.getfield 7, 3) := by decide +kernel
theorem dX6_addGuide_92 : decode cX6_addGuide 92 = .ok (.bipush 8, 2) := by decide +kernel
theorem dX6_addGuide_94 : decode cX6_addGuide 94 = .ok (.iconst 4, 1) := by decide +kernel
theorem dX6_addGuide_95 : decode cX6_addGuide 95 = .ok (.iload_n 3, 1) := by decide +kernel
theorem dX6_addGuide_96 : decode cX6_addGuide 96 = .ok (.imul, 1) := by decide +kernel
theorem dX6_addGuide_97 : decode cX6_addGuide 97 = .ok (.iadd, 1) := by decide +kernel
theorem dX6_addGuide_98 : decode cX6_addGuide 98 = .ok (.iconst 3, 1) := by decide +kernel
theorem dX6_addGuide_99 : decode cX6_addGuide 99 = .ok (.iadd, 1) := by decide +kernel
theorem dX6_addGuide_100 : decode cX6_addGuide 100 = .ok (.iconst 0, 1) := by decide +kernel
theorem dX6_addGuide_101 : decode cX6_addGuide 101 = .ok (.iastore, 1) := by decide +kernel
theorem dX6_addGuide_102 : decode cX6_addGuide 102 = .ok (.iload_n 3, 1) := by decide +kernel
theorem dX6_addGuide_103 : decode cX6_addGuide 103 = .ok (.ireturn, 1) := by decide +kernel
theorem dX6_renew_0 : decode cX6_renew 0 = .ok (.aload_n 0, 1) := by decide +kernel
theorem dX6_renew_1 : decode cX6_renew 1 = .ok (.iload_n 1, 1) := by decide +kernel
theorem dX6_renew_2 : decode cX6_renew 2 = .ok (.invokevirtual 52, 3) := by decide +kernel
theorem dX6_renew_5 : decode cX6_renew 5 = .ok (.ifCond .eq 5, 3) := by decide +kernel
theorem dX6_renew_8 : decode cX6_renew 8 = .ok (.iconst (-1), 1) := by decide +kernel
theorem dX6_renew_9 : decode cX6_renew 9 = .ok (.ireturn, 1) := by decide +kernel
theorem dX6_renew_10 : decode cX6_renew 10 = .ok (.iload_n 2, 1) := by decide +kernel
theorem dX6_renew_11 : decode cX6_renew 11 = .ok (.iload_n 3, 1) := by decide +kernel
theorem dX6_renew_12 : decode cX6_renew 12 = .ok (.invokestatic 45, 3) := by decide +kernel
theorem dX6_renew_15 : decode cX6_renew 15 = .ok (.ifCond .ne 6, 3) := by decide +kernel
theorem dX6_renew_18 : decode cX6_renew 18 = .ok (.bipush (-2), 2) := by decide +kernel
theorem dX6_renew_20 : decode cX6_renew 20 = .ok (.ireturn, 1) := by decide +kernel
theorem dX6_renew_21 : decode cX6_renew 21 = .ok (.aload_n 0, 1) := by decide +kernel
theorem dX6_renew_22 : decode cX6_renew 22 = .ok (.iload_n 1, 1) := by decide +kernel
theorem dX6_renew_23 : decode cX6_renew 23 = .ok (.iconst 1, 1) := by decide +kernel
theorem dX6_renew_24 : decode cX6_renew 24 = .ok (.invokevirtual 56, 3) := by decide +kernel
theorem dX6_renew_27 : decode cX6_renew 27 = .ok (.istore 4, 2) := by decide +kernel
theorem dX6_renew_29 : decode cX6_renew 29 = .ok (.iload 4, 2) := by decide +kernel
theorem dX6_renew_31 : decode cX6_renew 31 = .ok (.iload_n 3, 1) := by decide +kernel
theorem dX6_renew_32 : decode cX6_renew 32 = .ok (.if_icmp .ne 16, 3) := by decide +kernel
theorem dX6_renew_35 : decode cX6_renew 35 = .ok (.aload_n 0, 1) := by decide +kernel
theorem dX6_renew_36 : decode cX6_renew 36 = .ok (.iload_n 1, 1) := by decide +kernel
theorem dX6_renew_37 : decode cX6_renew 37 = .ok (.iconst 0, 1) := by decide +kernel
theorem dX6_renew_38 : decode cX6_renew 38 = .ok (.invokevirtual 56, 3) := by decide +kernel
theorem dX6_renew_41 : decode cX6_renew 41 = .ok (.iload_n 2, 1) := by decide +kernel
theorem dX6_renew_42 : decode cX6_renew 42 = .ok (.if_icmp .ne 6, 3) := by decide +kernel
theorem dX6_renew_45 : decode cX6_renew 45 = .ok (.bipush (-5), 2) := by decide +kernel
theorem dX6_renew_47 : decode cX6_renew 47 = .ok (.ireturn, 1) := by decide +kernel
theorem dX6_renew_48 : decode cX6_renew 48 = .ok (.aload_n 0, 1) := by decide +kernel
theorem dX6_renew_49 : decode cX6_renew 49 = .ok (.invokevirtual 49, 3) := by decide +kernel
theorem dX6_renew_52 : decode cX6_renew 52 = .ok (.aload_n 0, 1) := by decide +kernel
theorem dX6_renew_53 : decode cX6_renew 53 = .ok (.getfield 7, 3) := by decide +kernel
theorem dX6_renew_56 : decode cX6_renew 56 = .ok (.bipush 8, 2) := by decide +kernel
theorem dX6_renew_58 : decode cX6_renew 58 = .ok (.iconst 4, 1) := by decide +kernel
theorem dX6_renew_59 : decode cX6_renew 59 = .ok (.iload_n 1, 1) := by decide +kernel
theorem dX6_renew_60 : decode cX6_renew 60 = .ok (.imul, 1) := by decide +kernel
theorem dX6_renew_61 : decode cX6_renew 61 = .ok (.iadd, 1) := by decide +kernel
theorem dX6_renew_62 : decode cX6_renew 62 = .ok (.iconst 0, 1) := by decide +kernel
theorem dX6_renew_63 : decode cX6_renew 63 = .ok (.iadd, 1) := by decide +kernel
theorem dX6_renew_64 : decode cX6_renew 64 = .ok (.iload_n 2, 1) := by decide +kernel
theorem dX6_renew_65 : decode cX6_renew 65 = .ok (.iastore, 1) := by decide +kernel
theorem dX6_renew_66 : decode cX6_renew 66 = .ok (.aload_n 0, 1) := by decide +kernel
theorem dX6_renew_67 : decode cX6_renew 67 = .ok (.getfield 7, 3) := by decide +kernel
theorem dX6_renew_70 : decode cX6_renew 70 = .ok (.bipush 8, 2) := by decide +kernel
theorem dX6_renew_72 : decode cX6_renew 72 = .ok (.iconst 4, 1) := by decide +kernel
theorem dX6_renew_73 : decode cX6_renew 73 = .ok (.iload_n 1, 1) := by decide +kernel
theorem dX6_renew_74 : decode cX6_renew 74 = .ok (.imul, 1) := by decide +kernel
theorem dX6_renew_75 : decode cX6_renew 75 = .ok (.iadd, 1) := by decide +kernel
theorem dX6_renew_76 : decode cX6_renew 76 = .ok (.iconst 1, 1) := by decide +kernel
theorem dX6_renew_77 : decode cX6_renew 77 = .ok (.iadd, 1) := by decide +kernel
theorem dX6_renew_78 : decode cX6_renew 78 = .ok (.iload_n 3, 1) := by decide +kernel
theorem dX6_renew_79 : decode cX6_renew 79 = .ok (.iastore, 1) := by decide +kernel
theorem dX6_renew_80 : decode cX6_renew 80 = .ok (.iload 4, 2) := by decide +kernel
theorem dX6_renew_82 : decode cX6_renew 82 = .ok (.ireturn, 1) := by decide +kernel
theorem dX6_isUpTo_0 : decode cX6_isUpTo 0 = .ok (.lload_n 0, 1) := by decide +kernel
theorem dX6_isUpTo_1 : decode cX6_isUpTo 1 = .ok (.lconst 0, 1) := by decide +kernel
theorem dX6_isUpTo_2 : decode cX6_isUpTo 2 = .ok (.lcmp, 1) := by decide +kernel
theorem dX6_isUpTo_3 : decode cX6_isUpTo 3 = .ok (.ifCond .lt 11, 3) := by decide +kernel
theorem dX6_isUpTo_6 : decode cX6_isUpTo 6 = .ok (.lload_n 0, 1) := by decide +kernel
theorem dX6_isUpTo_7 : decode cX6_isUpTo 7 = .ok (.ldc2_w 59, 3) := by decide +kernel
theorem dX6_isUpTo_10 : decode cX6_isUpTo 10 = .ok (.lcmp, 1) := by decide +kernel
theorem dX6_isUpTo_11 : decode cX6_isUpTo 11 = .ok (.ifCond .le 5, 3) := by decide +kernel
theorem dX6_isUpTo_14 : decode cX6_isUpTo 14 = .ok (.iconst 0, 1) := by decide +kernel
theorem dX6_isUpTo_15 : decode cX6_isUpTo 15 = .ok (.ireturn, 1) := by decide +kernel
theorem dX6_isUpTo_16 : decode cX6_isUpTo 16 = .ok (.lload_n 0, 1) := by decide +kernel
theorem dX6_isUpTo_17 : decode cX6_isUpTo 17 = .ok (.invokestatic 61, 3) := by decide +kernel
theorem dX6_isUpTo_20 : decode cX6_isUpTo 20 = .ok (.dstore 4, 2) := by decide +kernel
theorem dX6_isUpTo_22 : decode cX6_isUpTo 22 = .ok (.dload 4, 2) := by decide +kernel
theorem dX6_isUpTo_24 : decode cX6_isUpTo 24 = .ok (.dconst 0, 1) := by decide +kernel
theorem dX6_isUpTo_25 : decode cX6_isUpTo 25 = .ok (.dcmp .l, 1) := by decide +kernel
theorem dX6_isUpTo_26 : decode cX6_isUpTo 26 = .ok (.ifCond .lt 14, 3) := by decide +kernel
theorem dX6_isUpTo_29 : decode cX6_isUpTo 29 = .ok (.dload 4, 2) := by decide +kernel
theorem dX6_isUpTo_31 : decode cX6_isUpTo 31 = .ok (.dload_n 2, 1) := by decide +kernel
theorem dX6_isUpTo_32 : decode cX6_isUpTo 32 = .ok (.dcmp .g, 1) := by decide +kernel
theorem dX6_isUpTo_33 : decode cX6_isUpTo 33 = .ok (.ifCond .gt 7, 3) := by decide +kernel
theorem dX6_isUpTo_36 : decode cX6_isUpTo 36 = .ok (.iconst 1, 1) := by decide +kernel
theorem dX6_isUpTo_37 : decode cX6_isUpTo 37 = .ok (.goto 4, 3) := by decide +kernel
theorem dX6_isUpTo_40 : decode cX6_isUpTo 40 = .ok (.iconst 0, 1) := by decide +kernel
theorem dX6_isUpTo_41 : decode cX6_isUpTo 41 = .ok (.ireturn, 1) := by decide +kernel
theorem dX6_addBridge_0 : decode cX6_addBridge 0 = .ok (.lload_n 1, 1) := by decide +kernel
theorem dX6_addBridge_1 : decode cX6_addBridge 1 = .ok (.ldc2_w 67, 3) := by decide +kernel
theorem dX6_addBridge_4 : decode cX6_addBridge 4 = .ok (.invokestatic 69, 3) := by decide +kernel
theorem dX6_addBridge_7 : decode cX6_addBridge 7 = .ok (.ifCond .ne 6, 3) := by decide +kernel
theorem dX6_addBridge_10 : decode cX6_addBridge 10 = .ok (.bipush (-2), 2) := by decide +kernel
theorem dX6_addBridge_12 : decode cX6_addBridge 12 = .ok (.ireturn, 1) := by decide +kernel
theorem dX6_addBridge_13 : decode cX6_addBridge 13 = .ok (.aload_n 0, 1) := by decide +kernel
theorem dX6_addBridge_14 : decode cX6_addBridge 14 = .ok (.getfield 7, 3) := by decide +kernel
theorem dX6_addBridge_17 : decode cX6_addBridge 17 = .ok (.iconst 2, 1) := by decide +kernel
theorem dX6_addBridge_18 : decode cX6_addBridge 18 = .ok (.iaload, 1) := by decide +kernel
theorem dX6_addBridge_19 : decode cX6_addBridge 19 = .ok (.bipush 6, 2) := by decide +kernel
theorem dX6_addBridge_21 : decode cX6_addBridge 21 = .ok (.if_icmp .ne 6, 3) := by decide +kernel
theorem dX6_addBridge_24 : decode cX6_addBridge 24 = .ok (.bipush (-3), 2) := by decide +kernel
theorem dX6_addBridge_26 : decode cX6_addBridge 26 = .ok (.ireturn, 1) := by decide +kernel
theorem dX6_addBridge_27 : decode cX6_addBridge 27 = .ok (.aload_n 0, 1) := by decide +kernel
theorem dX6_addBridge_28 : decode cX6_addBridge 28 = .ok (.invokevirtual 49, 3) := by decide +kernel
theorem dX6_addBridge_31 : decode cX6_addBridge 31 = .ok (.aload_n 0, 1) := by decide +kernel
theorem dX6_addBridge_32 : decode cX6_addBridge 32 = .ok (.getfield 19, 3) := by decide +kernel
theorem dX6_addBridge_35 : decode cX6_addBridge 35 = .ok (.iconst 1, 1) := by decide +kernel
theorem dX6_addBridge_36 : decode cX6_addBridge 36 = .ok (.aload_n 0, 1) := by decide +kernel
theorem dX6_addBridge_37 : decode cX6_addBridge 37 = .ok (.getfield 7, 3) := by decide +kernel
theorem dX6_addBridge_40 : decode cX6_addBridge 40 = .ok (.iconst 2, 1) := by decide +kernel
theorem dX6_addBridge_41 : decode cX6_addBridge 41 = .ok (.iaload, 1) := by decide +kernel
theorem dX6_addBridge_42 : decode cX6_addBridge 42 = .ok (.iadd, 1) := by decide +kernel
theorem dX6_addBridge_43 : decode cX6_addBridge 43 = .ok (.lload_n 1, 1) := by decide +kernel
theorem dX6_addBridge_44 : decode cX6_addBridge 44 = .ok (.invokestatic 61, 3) := by decide +kernel
theorem dX6_addBridge_47 : decode cX6_addBridge 47 = .ok (.dastore, 1) := by decide +kernel
theorem dX6_addBridge_48 : decode cX6_addBridge 48 = .ok (.aload_n 0, 1) := by decide +kernel
theorem dX6_addBridge_49 : decode cX6_addBridge 49 = .ok (.getfield 7, 3) := by decide +kernel
theorem dX6_addBridge_52 : decode cX6_addBridge 52 = .ok (.iconst 2, 1) := by decide +kernel
theorem dX6_addBridge_53 : decode cX6_addBridge 53 = .ok (.dup2, 1) := by decide +kernel
theorem dX6_addBridge_54 : decode cX6_addBridge 54 = .ok (.iaload, 1) := by decide +kernel
theorem dX6_addBridge_55 : decode cX6_addBridge 55 = .ok (.iconst 1, 1) := by decide +kernel
theorem dX6_addBridge_56 : decode cX6_addBridge 56 = .ok (.iadd, 1) := by decide +kernel
theorem dX6_addBridge_57 : decode cX6_addBridge 57 = .ok (.iastore, 1) := by decide +kernel
theorem dX6_addBridge_58 : decode cX6_addBridge 58 = .ok (.aload_n 0, 1) := by decide +kernel
theorem dX6_addBridge_59 : decode cX6_addBridge 59 = .ok (.getfield 7, 3) := by decide +kernel
theorem dX6_addBridge_62 : decode cX6_addBridge 62 = .ok (.iconst 2, 1) := by decide +kernel
theorem dX6_addBridge_63 : decode cX6_addBridge 63 = .ok (.iaload, 1) := by decide +kernel
theorem dX6_addBridge_64 : decode cX6_addBridge 64 = .ok (.iconst 1, 1) := by decide +kernel
theorem dX6_addBridge_65 : decode cX6_addBridge 65 = .ok (.isub, 1) := by decide +kernel
theorem dX6_addBridge_66 : decode cX6_addBridge 66 = .ok (.ireturn, 1) := by decide +kernel
theorem dX6_setTemperature_0 : decode cX6_setTemperature 0 = .ok (.lload_n 1, 1) := by decide +kernel
theorem dX6_setTemperature_1 : decode cX6_setTemperature 1 = .ok (.ldc2_w 73, 3) := by decide +kernel
theorem dX6_setTemperature_4 : decode cX6_setTemperature 4 = .ok (.land, 1) := by decide +kernel
theorem dX6_setTemperature_5 : decode cX6_setTemperature 5 = .ok (.ldc2_w 59, 3) := by decide +kernel
theorem dX6_setTemperature_8 : decode cX6_setTemperature 8 = .ok (.lcmp, 1) := by decide +kernel
theorem dX6_setTemperature_9 : decode cX6_setTemperature 9 = .ok (.ifCond .le 6, 3) := by decide +kernel
theorem dX6_setTemperature_12 : decode cX6_setTemperature 12 = .ok (.bipush (-2), 2) := by decide +kernel
theorem dX6_setTemperature_14 : decode cX6_setTemperature 14 = .ok (.ireturn, 1) := by decide +kernel
theorem dX6_setTemperature_15 : decode cX6_setTemperature 15 = .ok (.lload_n 1, 1) := by decide +kernel
theorem dX6_setTemperature_16 : decode cX6_setTemperature 16 = .ok (.invokestatic 61, 3) := by decide +kernel
theorem dX6_setTemperature_19 : decode cX6_setTemperature 19 = .ok (.dstore_n 3, 1) := by decide +kernel
theorem dX6_setTemperature_20 : decode cX6_setTemperature 20 = .ok (.dload_n 3, 1) := by decide +kernel
theorem dX6_setTemperature_21 : decode cX6_setTemperature 21 = .ok (.ldc2_w 75, 3) := by decide +kernel
theorem dX6_setTemperature_24 : decode cX6_setTemperature 24 = .ok (.dcmp .l, 1) := by decide +kernel
theorem dX6_setTemperature_25 : decode cX6_setTemperature 25 = .ok (.ifCond .lt 15, 3) := by decide +kernel
theorem dX6_setTemperature_28 : decode cX6_setTemperature 28 = .ok (.dload_n 3, 1) := by decide +kernel
theorem dX6_setTemperature_29 : decode cX6_setTemperature 29 = .ok (.ldc2_w 77, 3) := by decide +kernel
theorem dX6_setTemperature_32 : decode cX6_setTemperature 32 = .ok (.dcmp .g, 1) := by decide +kernel
theorem dX6_setTemperature_33 : decode cX6_setTemperature 33 = .ok (.ifCond .gt 7, 3) := by decide +kernel
theorem dX6_setTemperature_36 : decode cX6_setTemperature 36 = .ok (.iconst 1, 1) := by decide +kernel
theorem dX6_setTemperature_37 : decode cX6_setTemperature 37 = .ok (.goto 4, 3) := by decide +kernel
theorem dX6_setTemperature_40 : decode cX6_setTemperature 40 = .ok (.iconst 0, 1) := by decide +kernel
theorem dX6_setTemperature_41 : decode cX6_setTemperature 41 = .ok (.istore 5, 2) := by decide +kernel
theorem dX6_setTemperature_43 : decode cX6_setTemperature 43 = .ok (.iload 5, 2) := by decide +kernel
theorem dX6_setTemperature_45 : decode cX6_setTemperature 45 = .ok (.ifCond .ne 6, 3) := by decide +kernel
theorem dX6_setTemperature_48 : decode cX6_setTemperature 48 = .ok (.bipush (-2), 2) := by decide +kernel
theorem dX6_setTemperature_50 : decode cX6_setTemperature 50 = .ok (.ireturn, 1) := by decide +kernel
theorem dX6_setTemperature_51 : decode cX6_setTemperature 51 = .ok (.aload_n 0, 1) := by decide +kernel
theorem dX6_setTemperature_52 : decode cX6_setTemperature 52 = .ok (.getfield 19, 3) := by decide +kernel
theorem dX6_setTemperature_55 : decode cX6_setTemperature 55 = .ok (.iconst 0, 1) := by decide +kernel
theorem dX6_setTemperature_56 : decode cX6_setTemperature 56 = .ok (.daload, 1) := by decide +kernel
theorem dX6_setTemperature_57 : decode cX6_setTemperature 57 = .ok (.dload_n 3, 1) := by decide +kernel
theorem dX6_setTemperature_58 : decode cX6_setTemperature 58 = .ok (.dcmp .l, 1) := by decide +kernel
theorem dX6_setTemperature_59 : decode cX6_setTemperature 59 = .ok (.ifCond .ne 6, 3) := by decide +kernel
theorem dX6_setTemperature_62 : decode cX6_setTemperature 62 = .ok (.bipush (-5), 2) := by decide +kernel
theorem dX6_setTemperature_64 : decode cX6_setTemperature 64 = .ok (.ireturn, 1) := by decide +kernel
theorem dX6_setTemperature_65 : decode cX6_setTemperature 65 = .ok (.aload_n 0, 1) := by decide +kernel
theorem dX6_setTemperature_66 : decode cX6_setTemperature 66 = .ok (.invokevirtual 49, 3) := by decide +kernel
theorem dX6_setTemperature_69 : decode cX6_setTemperature 69 = .ok (.aload_n 0, 1) := by decide +kernel
theorem dX6_setTemperature_70 : decode cX6_setTemperature 70 = .ok (.getfield 19, 3) := by decide +kernel
theorem dX6_setTemperature_73 : decode cX6_setTemperature 73 = .ok (.iconst 0, 1) := by decide +kernel
theorem dX6_setTemperature_74 : decode cX6_setTemperature 74 = .ok (.dload_n 3, 1) := by decide +kernel
theorem dX6_setTemperature_75 : decode cX6_setTemperature 75 = .ok (.dastore, 1) := by decide +kernel
theorem dX6_setTemperature_76 : decode cX6_setTemperature 76 = .ok (.iconst 1, 1) := by decide +kernel
theorem dX6_setTemperature_77 : decode cX6_setTemperature 77 = .ok (.ireturn, 1) := by decide +kernel
theorem dX6_baseOf_0 : decode cX6_baseOf 0 = .ok (.aload_n 0, 1) := by decide +kernel
theorem dX6_baseOf_1 : decode cX6_baseOf 1 = .ok (.getfield 19, 3) := by decide +kernel
theorem dX6_baseOf_4 : decode cX6_baseOf 4 = .ok (.bipush 7, 2) := by decide +kernel
theorem dX6_baseOf_6 : decode cX6_baseOf 6 = .ok (.iload_n 1, 1) := by decide +kernel
theorem dX6_baseOf_7 : decode cX6_baseOf 7 = .ok (.iadd, 1) := by decide +kernel
theorem dX6_baseOf_8 : decode cX6_baseOf 8 = .ok (.daload, 1) := by decide +kernel
theorem dX6_baseOf_9 : decode cX6_baseOf 9 = .ok (.dstore_n 2, 1) := by decide +kernel
theorem dX6_baseOf_10 : decode cX6_baseOf 10 = .ok (.dload_n 2, 1) := by decide +kernel
theorem dX6_baseOf_11 : decode cX6_baseOf 11 = .ok (.ldc2_w 79, 3) := by decide +kernel
theorem dX6_baseOf_14 : decode cX6_baseOf 14 = .ok (.dcmp .g, 1) := by decide +kernel
theorem dX6_baseOf_15 : decode cX6_baseOf 15 = .ok (.ifCond .ge 8, 3) := by decide +kernel
theorem dX6_baseOf_18 : decode cX6_baseOf 18 = .ok (.bipush 7, 2) := by decide +kernel
theorem dX6_baseOf_20 : decode cX6_baseOf 20 = .ok (.goto 28, 3) := by decide +kernel
theorem dX6_baseOf_23 : decode cX6_baseOf 23 = .ok (.dload_n 2, 1) := by decide +kernel
theorem dX6_baseOf_24 : decode cX6_baseOf 24 = .ok (.ldc2_w 77, 3) := by decide +kernel
theorem dX6_baseOf_27 : decode cX6_baseOf 27 = .ok (.dcmp .g, 1) := by decide +kernel
theorem dX6_baseOf_28 : decode cX6_baseOf 28 = .ok (.ifCond .ge 7, 3) := by decide +kernel
theorem dX6_baseOf_31 : decode cX6_baseOf 31 = .ok (.iconst 5, 1) := by decide +kernel
theorem dX6_baseOf_32 : decode cX6_baseOf 32 = .ok (.goto 16, 3) := by decide +kernel
theorem dX6_baseOf_35 : decode cX6_baseOf 35 = .ok (.dload_n 2, 1) := by decide +kernel
theorem dX6_baseOf_36 : decode cX6_baseOf 36 = .ok (.ldc2_w 81, 3) := by decide +kernel
theorem dX6_baseOf_39 : decode cX6_baseOf 39 = .ok (.dcmp .g, 1) := by decide +kernel
theorem dX6_baseOf_40 : decode cX6_baseOf 40 = .ok (.ifCond .ge 7, 3) := by decide +kernel
theorem dX6_baseOf_43 : decode cX6_baseOf 43 = .ok (.iconst 3, 1) := by decide +kernel
theorem dX6_baseOf_44 : decode cX6_baseOf 44 = .ok (.goto 4, 3) := by decide +kernel
theorem dX6_baseOf_47 : decode cX6_baseOf 47 = .ok (.iconst 1, 1) := by decide +kernel
theorem dX6_baseOf_48 : decode cX6_baseOf 48 = .ok (.ireturn, 1) := by decide +kernel
theorem dX6_ratio_0 : decode cX6_ratio 0 = .ok (.aload_n 0, 1) := by decide +kernel
theorem dX6_ratio_1 : decode cX6_ratio 1 = .ok (.iload_n 1, 1) := by decide +kernel
theorem dX6_ratio_2 : decode cX6_ratio 2 = .ok (.invokevirtual 83, 3) := by decide +kernel
theorem dX6_ratio_5 : decode cX6_ratio 5 = .ok (.aload_n 0, 1) := by decide +kernel
theorem dX6_ratio_6 : decode cX6_ratio 6 = .ok (.iload_n 2, 1) := by decide +kernel
theorem dX6_ratio_7 : decode cX6_ratio 7 = .ok (.iconst 0, 1) := by decide +kernel
theorem dX6_ratio_8 : decode cX6_ratio 8 = .ok (.invokevirtual 56, 3) := by decide +kernel
theorem dX6_ratio_11 : decode cX6_ratio 11 = .ok (.iadd, 1) := by decide +kernel
theorem dX6_ratio_12 : decode cX6_ratio 12 = .ok (.iconst 2, 1) := by decide +kernel
theorem dX6_ratio_13 : decode cX6_ratio 13 = .ok (.isub, 1) := by decide +kernel
theorem dX6_ratio_14 : decode cX6_ratio 14 = .ok (.istore_n 3, 1) := by decide +kernel
theorem dX6_ratio_15 : decode cX6_ratio 15 = .ok (.iload_n 3, 1) := by decide +kernel
theorem dX6_ratio_16 : decode cX6_ratio 16 = .ok (.iconst 1, 1) := by decide +kernel
theorem dX6_ratio_17 : decode cX6_ratio 17 = .ok (.if_icmp .ge 7, 3) := by decide +kernel
theorem dX6_ratio_20 : decode cX6_ratio 20 = .ok (.iconst 1, 1) := by decide +kernel
theorem dX6_ratio_21 : decode cX6_ratio 21 = .ok (.goto 4, 3) := by decide +kernel
theorem dX6_ratio_24 : decode cX6_ratio 24 = .ok (.iload_n 3, 1) := by decide +kernel
theorem dX6_ratio_25 : decode cX6_ratio 25 = .ok (.ireturn, 1) := by decide +kernel
theorem dX6_guideOn_0 : decode cX6_guideOn 0 = .ok (.aload_n 0, 1) := by decide +kernel
theorem dX6_guideOn_1 : decode cX6_guideOn 1 = .ok (.iload_n 1, 1) := by decide +kernel
theorem dX6_guideOn_2 : decode cX6_guideOn 2 = .ok (.bipush 8, 2) := by decide +kernel
theorem dX6_guideOn_4 : decode cX6_guideOn 4 = .ok (.iload_n 2, 1) := by decide +kernel
theorem dX6_guideOn_5 : decode cX6_guideOn 5 = .ok (.iadd, 1) := by decide +kernel
theorem dX6_guideOn_6 : decode cX6_guideOn 6 = .ok (.invokevirtual 41, 3) := by decide +kernel
theorem dX6_guideOn_9 : decode cX6_guideOn 9 = .ok (.ireturn, 1) := by decide +kernel
theorem dX6_onRope_0 : decode cX6_onRope 0 = .ok (.aload_n 0, 1) := by decide +kernel
theorem dX6_onRope_1 : decode cX6_onRope 1 = .ok (.iload_n 1, 1) := by decide +kernel
theorem dX6_onRope_2 : decode cX6_onRope 2 = .ok (.iconst 3, 1) := by decide +kernel
theorem dX6_onRope_3 : decode cX6_onRope 3 = .ok (.invokevirtual 41, 3) := by decide +kernel
theorem dX6_onRope_6 : decode cX6_onRope 6 = .ok (.istore_n 3, 1) := by decide +kernel
theorem dX6_onRope_7 : decode cX6_onRope 7 = .ok (.iconst 0, 1) := by decide +kernel
theorem dX6_onRope_8 : decode cX6_onRope 8 = .ok (.istore 4, 2) := by decide +kernel
theorem dX6_onRope_10 : decode cX6_onRope 10 = .ok (.iload 4, 2) := by decide +kernel
theorem dX6_onRope_12 : decode cX6_onRope 12 = .ok (.aload_n 0, 1) := by decide +kernel
theorem dX6_onRope_13 : decode cX6_onRope 13 = .ok (.iload_n 1, 1) := by decide +kernel
theorem dX6_onRope_14 : decode cX6_onRope 14 = .ok (.iconst 4, 1) := by decide +kernel
theorem dX6_onRope_15 : decode cX6_onRope 15 = .ok (.invokevirtual 41, 3) := by decide +kernel
theorem dX6_onRope_18 : decode cX6_onRope 18 = .ok (.if_icmp .ge 57, 3) := by decide +kernel
theorem dX6_onRope_21 : decode cX6_onRope 21 = .ok (.aload_n 0, 1) := by decide +kernel
theorem dX6_onRope_22 : decode cX6_onRope 22 = .ok (.iload_n 1, 1) := by decide +kernel
theorem dX6_onRope_23 : decode cX6_onRope 23 = .ok (.aload_n 0, 1) := by decide +kernel
theorem dX6_onRope_24 : decode cX6_onRope 24 = .ok (.iload_n 1, 1) := by decide +kernel
theorem dX6_onRope_25 : decode cX6_onRope 25 = .ok (.iload 4, 2) := by decide +kernel
theorem dX6_onRope_27 : decode cX6_onRope 27 = .ok (.invokevirtual 87, 3) := by decide +kernel
theorem dX6_onRope_30 : decode cX6_onRope 30 = .ok (.invokevirtual 90, 3) := by decide +kernel
theorem dX6_onRope_33 : decode cX6_onRope 33 = .ok (.iload_n 3, 1) := by decide +kernel
theorem dX6_onRope_34 : decode cX6_onRope 34 = .ok (.if_icmp .ge 18, 3) := by decide +kernel
theorem dX6_onRope_37 : decode cX6_onRope 37 = .ok (.aload_n 0, 1) := by decide +kernel
theorem dX6_onRope_38 : decode cX6_onRope 38 = .ok (.iload_n 1, 1) := by decide +kernel
theorem dX6_onRope_39 : decode cX6_onRope 39 = .ok (.aload_n 0, 1) := by decide +kernel
theorem dX6_onRope_40 : decode cX6_onRope 40 = .ok (.iload_n 1, 1) := by decide +kernel
theorem dX6_onRope_41 : decode cX6_onRope 41 = .ok (.iload 4, 2) := by decide +kernel
theorem dX6_onRope_43 : decode cX6_onRope 43 = .ok (.invokevirtual 87, 3) := by decide +kernel
theorem dX6_onRope_46 : decode cX6_onRope 46 = .ok (.invokevirtual 90, 3) := by decide +kernel
theorem dX6_onRope_49 : decode cX6_onRope 49 = .ok (.goto 4, 3) := by decide +kernel
theorem dX6_onRope_52 : decode cX6_onRope 52 = .ok (.iload_n 3, 1) := by decide +kernel
theorem dX6_onRope_53 : decode cX6_onRope 53 = .ok (.istore 5, 2) := by decide +kernel
theorem dX6_onRope_55 : decode cX6_onRope 55 = .ok (.iload 4, 2) := by decide +kernel
theorem dX6_onRope_57 : decode cX6_onRope 57 = .ok (.iload_n 2, 1) := by decide +kernel
theorem dX6_onRope_58 : decode cX6_onRope 58 = .ok (.if_icmp .ne 6, 3) := by decide +kernel
theorem dX6_onRope_61 : decode cX6_onRope 61 = .ok (.iload 5, 2) := by decide +kernel
theorem dX6_onRope_63 : decode cX6_onRope 63 = .ok (.ireturn, 1) := by decide +kernel
theorem dX6_onRope_64 : decode cX6_onRope 64 = .ok (.iload_n 3, 1) := by decide +kernel
theorem dX6_onRope_65 : decode cX6_onRope 65 = .ok (.iload 5, 2) := by decide +kernel
theorem dX6_onRope_67 : decode cX6_onRope 67 = .ok (.isub, 1) := by decide +kernel
theorem dX6_onRope_68 : decode cX6_onRope 68 = .ok (.istore_n 3, 1) := by decide +kernel
theorem dX6_onRope_69 : decode cX6_onRope 69 = .ok (.iinc 4 1, 3) := by decide +kernel
theorem dX6_onRope_72 : decode cX6_onRope 72 = .ok (.goto (-62), 3) := by decide +kernel
theorem dX6_onRope_75 : decode cX6_onRope 75 = .ok (.iload_n 3, 1) := by decide +kernel
theorem dX6_onRope_76 : decode cX6_onRope 76 = .ok (.ireturn, 1) := by decide +kernel
theorem dX6_leftOver_0 : decode cX6_leftOver 0 = .ok (.aload_n 0, 1) := by decide +kernel
theorem dX6_leftOver_1 : decode cX6_leftOver 1 = .ok (.iload_n 1, 1) := by decide +kernel
theorem dX6_leftOver_2 : decode cX6_leftOver 2 = .ok (.aload_n 0, 1) := by decide +kernel
theorem dX6_leftOver_3 : decode cX6_leftOver 3 = .ok (.iload_n 1, 1) := by decide +kernel
theorem dX6_leftOver_4 : decode cX6_leftOver 4 = .ok (.iconst 4, 1) := by decide +kernel
theorem dX6_leftOver_5 : decode cX6_leftOver 5 = .ok (.invokevirtual 41, 3) := by decide +kernel
theorem dX6_leftOver_8 : decode cX6_leftOver 8 = .ok (.invokevirtual 93, 3) := by decide +kernel
theorem dX6_leftOver_11 : decode cX6_leftOver 11 = .ok (.ireturn, 1) := by decide +kernel
theorem dX6_neededBy_0 : decode cX6_neededBy 0 = .ok (.iconst 0, 1) := by decide +kernel
theorem dX6_neededBy_1 : decode cX6_neededBy 1 = .ok (.istore_n 2, 1) := by decide +kernel
theorem dX6_neededBy_2 : decode cX6_neededBy 2 = .ok (.iconst 0, 1) := by decide +kernel
theorem dX6_neededBy_3 : decode cX6_neededBy 3 = .ok (.istore_n 3, 1) := by decide +kernel
theorem dX6_neededBy_4 : decode cX6_neededBy 4 = .ok (.iload_n 3, 1) := by decide +kernel
theorem dX6_neededBy_5 : decode cX6_neededBy 5 = .ok (.aload_n 0, 1) := by decide +kernel
theorem dX6_neededBy_6 : decode cX6_neededBy 6 = .ok (.iload_n 1, 1) := by decide +kernel
theorem dX6_neededBy_7 : decode cX6_neededBy 7 = .ok (.iconst 4, 1) := by decide +kernel
theorem dX6_neededBy_8 : decode cX6_neededBy 8 = .ok (.invokevirtual 41, 3) := by decide +kernel
theorem dX6_neededBy_11 : decode cX6_neededBy 11 = .ok (.if_icmp .ge 30, 3) := by decide +kernel
theorem dX6_neededBy_14 : decode cX6_neededBy 14 = .ok (.aload_n 0, 1) := by decide +kernel
theorem dX6_neededBy_15 : decode cX6_neededBy 15 = .ok (.iload_n 1, 1) := by decide +kernel
theorem dX6_neededBy_16 : decode cX6_neededBy 16 = .ok (.iload_n 3, 1) := by decide +kernel
theorem dX6_neededBy_17 : decode cX6_neededBy 17 = .ok (.invokevirtual 93, 3) := by decide +kernel
theorem dX6_neededBy_20 : decode cX6_neededBy 20 = .ok (.iload_n 2, 1) := by decide +kernel
theorem dX6_neededBy_21 : decode cX6_neededBy 21 = .ok (.if_icmp .le 12, 3) := by decide +kernel
theorem dX6_neededBy_24 : decode cX6_neededBy 24 = .ok (.aload_n 0, 1) := by decide +kernel
theorem dX6_neededBy_25 : decode cX6_neededBy 25 = .ok (.iload_n 1, 1) := by decide +kernel
theorem dX6_neededBy_26 : decode cX6_neededBy 26 = .ok (.iload_n 3, 1) := by decide +kernel
theorem dX6_neededBy_27 : decode cX6_neededBy 27 = .ok (.invokevirtual 93, 3) := by decide +kernel
theorem dX6_neededBy_30 : decode cX6_neededBy 30 = .ok (.goto 4, 3) := by decide +kernel
theorem dX6_neededBy_33 : decode cX6_neededBy 33 = .ok (.iload_n 2, 1) := by decide +kernel
theorem dX6_neededBy_34 : decode cX6_neededBy 34 = .ok (.istore_n 2, 1) := by decide +kernel
theorem dX6_neededBy_35 : decode cX6_neededBy 35 = .ok (.iinc 3 1, 3) := by decide +kernel
theorem dX6_neededBy_38 : decode cX6_neededBy 38 = .ok (.goto (-34), 3) := by decide +kernel
theorem dX6_neededBy_41 : decode cX6_neededBy 41 = .ok (.iload_n 2, 1) := by decide +kernel
theorem dX6_neededBy_42 : decode cX6_neededBy 42 = .ok (.iconst 1, 1) := by decide +kernel
theorem dX6_neededBy_43 : decode cX6_neededBy 43 = .ok (.iadd, 1) := by decide +kernel
theorem dX6_neededBy_44 : decode cX6_neededBy 44 = .ok (.istore_n 3, 1) := by decide +kernel
theorem dX6_neededBy_45 : decode cX6_neededBy 45 = .ok (.ldc2_w 79, 3) := by decide +kernel
theorem dX6_neededBy_48 : decode cX6_neededBy 48 = .ok (.ldc2_w 96, 3) := by decide +kernel
theorem dX6_neededBy_51 : decode cX6_neededBy 51 = .ok (.iload_n 3, 1) := by decide +kernel
theorem dX6_neededBy_52 : decode cX6_neededBy 52 = .ok (.i2d, 1) := by decide +kernel
theorem dX6_neededBy_53 : decode cX6_neededBy 53 = .ok (.dmul, 1) := by decide +kernel
theorem dX6_neededBy_54 : decode cX6_neededBy 54 = .ok (.dadd, 1) := by decide +kernel
theorem dX6_neededBy_55 : decode cX6_neededBy 55 = .ok (.dreturn, 1) := by decide +kernel
theorem dX6_isHeld_0 : decode cX6_isHeld 0 = .ok (.aload_n 0, 1) := by decide +kernel
theorem dX6_isHeld_1 : decode cX6_isHeld 1 = .ok (.getfield 19, 3) := by decide +kernel
theorem dX6_isHeld_4 : decode cX6_isHeld 4 = .ok (.iconst 1, 1) := by decide +kernel
theorem dX6_isHeld_5 : decode cX6_isHeld 5 = .ok (.iload_n 2, 1) := by decide +kernel
theorem dX6_isHeld_6 : decode cX6_isHeld 6 = .ok (.iadd, 1) := by decide +kernel
theorem dX6_isHeld_7 : decode cX6_isHeld 7 = .ok (.daload, 1) := by decide +kernel
theorem dX6_isHeld_8 : decode cX6_isHeld 8 = .ok (.aload_n 0, 1) := by decide +kernel
theorem dX6_isHeld_9 : decode cX6_isHeld 9 = .ok (.iload_n 1, 1) := by decide +kernel
theorem dX6_isHeld_10 : decode cX6_isHeld 10 = .ok (.invokevirtual 98, 3) := by decide +kernel
theorem dX6_isHeld_13 : decode cX6_isHeld 13 = .ok (.dcmp .l, 1) := by decide +kernel
theorem dX6_isHeld_14 : decode cX6_isHeld 14 = .ok (.ifCond .lt 7, 3) := by decide +kernel
theorem dX6_isHeld_17 : decode cX6_isHeld 17 = .ok (.iconst 1, 1) := by decide +kernel
theorem dX6_isHeld_18 : decode cX6_isHeld 18 = .ok (.goto 4, 3) := by decide +kernel
theorem dX6_isHeld_21 : decode cX6_isHeld 21 = .ok (.iconst 0, 1) := by decide +kernel
theorem dX6_isHeld_22 : decode cX6_isHeld 22 = .ok (.ireturn, 1) := by decide +kernel
theorem dX6_causeOf_0 : decode cX6_causeOf 0 = .ok (.aload_n 0, 1) := by decide +kernel
theorem dX6_causeOf_1 : decode cX6_causeOf 1 = .ok (.iload_n 1, 1) := by decide +kernel
theorem dX6_causeOf_2 : decode cX6_causeOf 2 = .ok (.iconst 3, 1) := by decide +kernel
theorem dX6_causeOf_3 : decode cX6_causeOf 3 = .ok (.invokevirtual 41, 3) := by decide +kernel
theorem dX6_causeOf_6 : decode cX6_causeOf 6 = .ok (.ifCond .ne 5, 3) := by decide +kernel
theorem dX6_causeOf_9 : decode cX6_causeOf 9 = .ok (.iconst 1, 1) := by decide +kernel
theorem dX6_causeOf_10 : decode cX6_causeOf 10 = .ok (.ireturn, 1) := by decide +kernel
theorem dX6_causeOf_11 : decode cX6_causeOf 11 = .ok (.iconst 0, 1) := by decide +kernel
theorem dX6_causeOf_12 : decode cX6_causeOf 12 = .ok (.istore_n 2, 1) := by decide +kernel
theorem dX6_causeOf_13 : decode cX6_causeOf 13 = .ok (.iload_n 2, 1) := by decide +kernel
theorem dX6_causeOf_14 : decode cX6_causeOf 14 = .ok (.aload_n 0, 1) := by decide +kernel
theorem dX6_causeOf_15 : decode cX6_causeOf 15 = .ok (.getfield 7, 3) := by decide +kernel
theorem dX6_causeOf_18 : decode cX6_causeOf 18 = .ok (.iconst 2, 1) := by decide +kernel
theorem dX6_causeOf_19 : decode cX6_causeOf 19 = .ok (.iaload, 1) := by decide +kernel
theorem dX6_causeOf_20 : decode cX6_causeOf 20 = .ok (.if_icmp .ge 34, 3) := by decide +kernel
theorem dX6_causeOf_23 : decode cX6_causeOf 23 = .ok (.aload_n 0, 1) := by decide +kernel
theorem dX6_causeOf_24 : decode cX6_causeOf 24 = .ok (.iload_n 1, 1) := by decide +kernel
theorem dX6_causeOf_25 : decode cX6_causeOf 25 = .ok (.iconst 2, 1) := by decide +kernel
theorem dX6_causeOf_26 : decode cX6_causeOf 26 = .ok (.invokevirtual 41, 3) := by decide +kernel
theorem dX6_causeOf_29 : decode cX6_causeOf 29 = .ok (.iload_n 2, 1) := by decide +kernel
theorem dX6_causeOf_30 : decode cX6_causeOf 30 = .ok (.ishr, 1) := by decide +kernel
theorem dX6_causeOf_31 : decode cX6_causeOf 31 = .ok (.iconst 1, 1) := by decide +kernel
theorem dX6_causeOf_32 : decode cX6_causeOf 32 = .ok (.iand, 1) := by decide +kernel
theorem dX6_causeOf_33 : decode cX6_causeOf 33 = .ok (.iconst 1, 1) := by decide +kernel
theorem dX6_causeOf_34 : decode cX6_causeOf 34 = .ok (.if_icmp .ne 14, 3) := by decide +kernel
theorem dX6_causeOf_37 : decode cX6_causeOf 37 = .ok (.aload_n 0, 1) := by decide +kernel
theorem dX6_causeOf_38 : decode cX6_causeOf 38 = .ok (.iload_n 1, 1) := by decide +kernel
theorem dX6_causeOf_39 : decode cX6_causeOf 39 = .ok (.iload_n 2, 1) := by decide +kernel
theorem dX6_causeOf_40 : decode cX6_causeOf 40 = .ok (.invokevirtual 102, 3) := by decide +kernel
theorem dX6_causeOf_43 : decode cX6_causeOf 43 = .ok (.ifCond .ne 5, 3) := by decide +kernel
theorem dX6_causeOf_46 : decode cX6_causeOf 46 = .ok (.iconst 2, 1) := by decide +kernel
theorem dX6_causeOf_47 : decode cX6_causeOf 47 = .ok (.ireturn, 1) := by decide +kernel
theorem dX6_causeOf_48 : decode cX6_causeOf 48 = .ok (.iinc 2 1, 3) := by decide +kernel
theorem dX6_causeOf_51 : decode cX6_causeOf 51 = .ok (.goto (-38), 3) := by decide +kernel
theorem dX6_causeOf_54 : decode cX6_causeOf 54 = .ok (.aload_n 0, 1) := by decide +kernel
theorem dX6_causeOf_55 : decode cX6_causeOf 55 = .ok (.iload_n 1, 1) := by decide +kernel
theorem dX6_causeOf_56 : decode cX6_causeOf 56 = .ok (.invokevirtual 105, 3) := by decide +kernel
theorem dX6_causeOf_59 : decode cX6_causeOf 59 = .ok (.ifCond .ne 7, 3) := by decide +kernel
theorem dX6_causeOf_62 : decode cX6_causeOf 62 = .ok (.iconst 1, 1) := by decide +kernel
theorem dX6_causeOf_63 : decode cX6_causeOf 63 = .ok (.goto 4, 3) := by decide +kernel
theorem dX6_causeOf_66 : decode cX6_causeOf 66 = .ok (.iconst 0, 1) := by decide +kernel
theorem dX6_causeOf_67 : decode cX6_causeOf 67 = .ok (.istore_n 2, 1) := by decide +kernel
theorem dX6_causeOf_68 : decode cX6_causeOf 68 = .ok (.iconst 0, 1) := by decide +kernel
theorem dX6_causeOf_69 : decode cX6_causeOf 69 = .ok (.istore_n 3, 1) := by decide +kernel
theorem dX6_causeOf_70 : decode cX6_causeOf 70 = .ok (.iload_n 3, 1) := by decide +kernel
theorem dX6_causeOf_71 : decode cX6_causeOf 71 = .ok (.aload_n 0, 1) := by decide +kernel
theorem dX6_causeOf_72 : decode cX6_causeOf 72 = .ok (.iload_n 1, 1) := by decide +kernel
theorem dX6_causeOf_73 : decode cX6_causeOf 73 = .ok (.iconst 4, 1) := by decide +kernel
theorem dX6_causeOf_74 : decode cX6_causeOf 74 = .ok (.invokevirtual 41, 3) := by decide +kernel
theorem dX6_causeOf_77 : decode cX6_causeOf 77 = .ok (.if_icmp .ge 39, 3) := by decide +kernel
theorem dX6_causeOf_80 : decode cX6_causeOf 80 = .ok (.iload_n 2, 1) := by decide +kernel
theorem dX6_causeOf_81 : decode cX6_causeOf 81 = .ok (.ifCond .eq 27, 3) := by decide +kernel
theorem dX6_causeOf_84 : decode cX6_causeOf 84 = .ok (.aload_n 0, 1) := by decide +kernel
theorem dX6_causeOf_85 : decode cX6_causeOf 85 = .ok (.aload_n 0, 1) := by decide +kernel
theorem dX6_causeOf_86 : decode cX6_causeOf 86 = .ok (.iload_n 1, 1) := by decide +kernel
theorem dX6_causeOf_87 : decode cX6_causeOf 87 = .ok (.iload_n 3, 1) := by decide +kernel
theorem dX6_causeOf_88 : decode cX6_causeOf 88 = .ok (.invokevirtual 87, 3) := by decide +kernel
theorem dX6_causeOf_91 : decode cX6_causeOf 91 = .ok (.iconst 1, 1) := by decide +kernel
theorem dX6_causeOf_92 : decode cX6_causeOf 92 = .ok (.invokevirtual 56, 3) := by decide +kernel
theorem dX6_causeOf_95 : decode cX6_causeOf 95 = .ok (.aload_n 0, 1) := by decide +kernel
theorem dX6_causeOf_96 : decode cX6_causeOf 96 = .ok (.iload_n 1, 1) := by decide +kernel
theorem dX6_causeOf_97 : decode cX6_causeOf 97 = .ok (.iconst 0, 1) := by decide +kernel
theorem dX6_causeOf_98 : decode cX6_causeOf 98 = .ok (.invokevirtual 41, 3) := by decide +kernel
theorem dX6_causeOf_101 : decode cX6_causeOf 101 = .ok (.if_icmp .lt 7, 3) := by decide +kernel
theorem dX6_causeOf_104 : decode cX6_causeOf 104 = .ok (.iconst 1, 1) := by decide +kernel
theorem dX6_causeOf_105 : decode cX6_causeOf 105 = .ok (.goto 4, 3) := by decide +kernel
theorem dX6_causeOf_108 : decode cX6_causeOf 108 = .ok (.iconst 0, 1) := by decide +kernel
theorem dX6_causeOf_109 : decode cX6_causeOf 109 = .ok (.istore_n 2, 1) := by decide +kernel
theorem dX6_causeOf_110 : decode cX6_causeOf 110 = .ok (.iinc 3 1, 3) := by decide +kernel
theorem dX6_causeOf_113 : decode cX6_causeOf 113 = .ok (.goto (-43), 3) := by decide +kernel
theorem dX6_causeOf_116 : decode cX6_causeOf 116 = .ok (.iload_n 2, 1) := by decide +kernel
theorem dX6_causeOf_117 : decode cX6_causeOf 117 = .ok (.ifCond .eq 7, 3) := by decide +kernel
theorem dX6_causeOf_120 : decode cX6_causeOf 120 = .ok (.iconst 0, 1) := by decide +kernel
theorem dX6_causeOf_121 : decode cX6_causeOf 121 = .ok (.goto 4, 3) := by decide +kernel
theorem dX6_causeOf_124 : decode cX6_causeOf 124 = .ok (.iconst 3, 1) := by decide +kernel
theorem dX6_causeOf_125 : decode cX6_causeOf 125 = .ok (.ireturn, 1) := by decide +kernel
theorem dX6_addTour_0 : decode cX6_addTour 0 = .ok (.iload_n 1, 1) := by decide +kernel
theorem dX6_addTour_1 : decode cX6_addTour 1 = .ok (.aload_n 0, 1) := by decide +kernel
theorem dX6_addTour_2 : decode cX6_addTour 2 = .ok (.getfield 7, 3) := by decide +kernel
theorem dX6_addTour_5 : decode cX6_addTour 5 = .ok (.iconst 0, 1) := by decide +kernel
theorem dX6_addTour_6 : decode cX6_addTour 6 = .ok (.iaload, 1) := by decide +kernel
theorem dX6_addTour_7 : decode cX6_addTour 7 = .ok (.sipush 999, 3) := by decide +kernel
theorem dX6_addTour_10 : decode cX6_addTour 10 = .ok (.invokestatic 37, 3) := by decide +kernel
theorem dX6_addTour_13 : decode cX6_addTour 13 = .ok (.ifCond .eq 44, 3) := by decide +kernel
theorem dX6_addTour_16 : decode cX6_addTour 16 = .ok (.lload_n 2, 1) := by decide +kernel
theorem dX6_addTour_17 : decode cX6_addTour 17 = .ok (.ldc2_w 108, 3) := by decide +kernel
theorem dX6_addTour_20 : decode cX6_addTour 20 = .ok (.invokestatic 69, 3) := by decide +kernel
theorem dX6_addTour_23 : decode cX6_addTour 23 = .ok (.ifCond .eq 34, 3) := by decide +kernel
theorem dX6_addTour_26 : decode cX6_addTour 26 = .ok (.iload 4, 2) := by decide +kernel
theorem dX6_addTour_28 : decode cX6_addTour 28 = .ok (.iconst 1, 1) := by decide +kernel
theorem dX6_addTour_29 : decode cX6_addTour 29 = .ok (.sipush 9999, 3) := by decide +kernel
theorem dX6_addTour_32 : decode cX6_addTour 32 = .ok (.invokestatic 37, 3) := by decide +kernel
theorem dX6_addTour_35 : decode cX6_addTour 35 = .ok (.ifCond .eq 22, 3) := by decide +kernel
theorem dX6_addTour_38 : decode cX6_addTour 38 = .ok (.iload 5, 2) := by decide +kernel
theorem dX6_addTour_40 : decode cX6_addTour 40 = .ok (.iconst 0, 1) := by decide +kernel
theorem dX6_addTour_41 : decode cX6_addTour 41 = .ok (.iconst 1, 1) := by decide +kernel
theorem dX6_addTour_42 : decode cX6_addTour 42 = .ok (.aload_n 0, 1) := by decide +kernel
theorem dX6_addTour_43 : decode cX6_addTour 43 = .ok (.getfield 7, 3) := by decide +kernel
theorem dX6_addTour_46 : decode cX6_addTour 46 = .ok (.iconst 2, 1) := by decide +kernel
theorem dX6_addTour_47 : decode cX6_addTour 47 = .ok (.iaload, 1) := by decide +kernel
theorem dX6_addTour_48 : decode cX6_addTour 48 = .ok (.ishl, 1) := by decide +kernel
theorem dX6_addTour_49 : decode cX6_addTour 49 = .ok (.iconst 1, 1) := by decide +kernel
theorem dX6_addTour_50 : decode cX6_addTour 50 = .ok (.isub, 1) := by decide +kernel
theorem dX6_addTour_51 : decode cX6_addTour 51 = .ok (.invokestatic 37, 3) := by decide +kernel
theorem dX6_addTour_54 : decode cX6_addTour 54 = .ok (.ifCond .ne 6, 3) := by decide +kernel
theorem dX6_addTour_57 : decode cX6_addTour 57 = .ok (.bipush (-2), 2) := by decide +kernel
theorem dX6_addTour_59 : decode cX6_addTour 59 = .ok (.ireturn, 1) := by decide +kernel
theorem dX6_addTour_60 : decode cX6_addTour 60 = .ok (.aload_n 0, 1) := by decide +kernel
theorem dX6_addTour_61 : decode cX6_addTour 61 = .ok (.getfield 7, 3) := by decide +kernel
theorem dX6_addTour_64 : decode cX6_addTour 64 = .ok (.iconst 3, 1) := by decide +kernel
theorem dX6_addTour_65 : decode cX6_addTour 65 = .ok (.iaload, 1) := by decide +kernel
theorem dX6_addTour_66 : decode cX6_addTour 66 = .ok (.bipush 10, 2) := by decide +kernel
theorem dX6_addTour_68 : decode cX6_addTour 68 = .ok (.if_icmp .ne 6, 3) := by decide +kernel
theorem dX6_addTour_71 : decode cX6_addTour 71 = .ok (.bipush (-3), 2) := by decide +kernel
theorem dX6_addTour_73 : decode cX6_addTour 73 = .ok (.ireturn, 1) := by decide +kernel
theorem dX6_addTour_74 : decode cX6_addTour 74 = .ok (.aload_n 0, 1) := by decide +kernel
theorem dX6_addTour_75 : decode cX6_addTour 75 = .ok (.invokevirtual 49, 3) := by decide +kernel
theorem dX6_addTour_78 : decode cX6_addTour 78 = .ok (.aload_n 0, 1) := by decide +kernel
theorem dX6_addTour_79 : decode cX6_addTour 79 = .ok (.getfield 7, 3) := by decide +kernel
theorem dX6_addTour_82 : decode cX6_addTour 82 = .ok (.iconst 3, 1) := by decide +kernel
theorem dX6_addTour_83 : decode cX6_addTour 83 = .ok (.iaload, 1) := by decide +kernel
theorem dX6_addTour_84 : decode cX6_addTour 84 = .ok (.istore 6, 2) := by decide +kernel
theorem dX6_addTour_86 : decode cX6_addTour 86 = .ok (.aload_n 0, 1) := by decide +kernel
theorem dX6_addTour_87 : decode cX6_addTour 87 = .ok (.getfield 7, 3) := by decide +kernel
theorem dX6_addTour_90 : decode cX6_addTour 90 = .ok (.iconst 3, 1) := by decide +kernel
theorem dX6_addTour_91 : decode cX6_addTour 91 = .ok (.dup2, 1) := by decide +kernel
theorem dX6_addTour_92 : decode cX6_addTour 92 = .ok (.iaload, 1) := by decide +kernel
theorem dX6_addTour_93 : decode cX6_addTour 93 = .ok (.iconst 1, 1) := by decide +kernel
theorem dX6_addTour_94 : decode cX6_addTour 94 = .ok (.iadd, 1) := by decide +kernel
theorem dX6_addTour_95 : decode cX6_addTour 95 = .ok (.iastore, 1) := by decide +kernel
theorem dX6_addTour_96 : decode cX6_addTour 96 = .ok (.iconst 0, 1) := by decide +kernel
theorem dX6_addTour_97 : decode cX6_addTour 97 = .ok (.istore 7, 2) := by decide +kernel
theorem dX6_addTour_99 : decode cX6_addTour 99 = .ok (.iload 7, 2) := by decide +kernel
theorem dX6_addTour_101 : decode cX6_addTour 101 = .ok (.bipush 14, 2) := by decide +kernel
theorem dX6_addTour_103 : decode cX6_addTour 103 = .ok (.if_icmp .ge 18, 3) := by decide +kernel
theorem dX6_addTour_106 : decode cX6_addTour 106 = .ok (.aload_n 0, 1) := by decide +kernel
theorem dX6_addTour_107 : decode cX6_addTour 107 = .ok (.iload 6, 2) := by decide +kernel
theorem dX6_addTour_109 : decode cX6_addTour 109 = .ok (.iload 7, 2) := by decide +kernel
theorem dX6_addTour_111 : decode cX6_addTour 111 = .ok (.iconst 0, 1) := by decide +kernel
theorem dX6_addTour_112 : decode cX6_addTour 112 = .ok (.invokevirtual 110, 3) := by decide +kernel
theorem dX6_addTour_115 : decode cX6_addTour 115 = .ok (.iinc 7 1, 3) := by decide +kernel
theorem dX6_addTour_118 : decode cX6_addTour 118 = .ok (.goto (-19), 3) := by decide +kernel
theorem dX6_addTour_121 : decode cX6_addTour 121 = .ok (.aload_n 0, 1) := by decide +kernel
theorem dX6_addTour_122 : decode cX6_addTour 122 = .ok (.iload 6, 2) := by decide +kernel
theorem dX6_addTour_124 : decode cX6_addTour 124 = .ok (.iconst 0, 1) := by decide +kernel
theorem dX6_addTour_125 : decode cX6_addTour 125 = .ok (.iload_n 1, 1) := by decide +kernel
theorem dX6_addTour_126 : decode cX6_addTour 126 = .ok (.invokevirtual 110, 3) := by decide +kernel
theorem dX6_addTour_129 : decode cX6_addTour 129 = .ok (.aload_n 0, 1) := by decide +kernel
theorem dX6_addTour_130 : decode cX6_addTour 130 = .ok (.iload 6, 2) := by decide +kernel
theorem dX6_addTour_132 : decode cX6_addTour 132 = .ok (.iconst 1, 1) := by decide +kernel
theorem dX6_addTour_133 : decode cX6_addTour 133 = .ok (.iload 4, 2) := by decide +kernel
theorem dX6_addTour_135 : decode cX6_addTour 135 = .ok (.invokevirtual 110, 3) := by decide +kernel
theorem dX6_addTour_138 : decode cX6_addTour 138 = .ok (.aload_n 0, 1) := by decide +kernel
theorem dX6_addTour_139 : decode cX6_addTour 139 = .ok (.iload 6, 2) := by decide +kernel
theorem dX6_addTour_141 : decode cX6_addTour 141 = .ok (.iconst 2, 1) := by decide +kernel
theorem dX6_addTour_142 : decode cX6_addTour 142 = .ok (.iload 5, 2) := by decide +kernel
theorem dX6_addTour_144 : decode cX6_addTour 144 = .ok (.invokevirtual 110, 3) := by decide +kernel
theorem dX6_addTour_147 : decode cX6_addTour 147 = .ok (.aload_n 0, 1) := by decide +kernel
theorem dX6_addTour_148 : decode cX6_addTour 148 = .ok (.getfield 19, 3) := by decide +kernel
theorem dX6_addTour_151 : decode cX6_addTour 151 = .ok (.bipush 7, 2) := by decide +kernel
theorem dX6_addTour_153 : decode cX6_addTour 153 = .ok (.iload 6, 2) := by decide +kernel
theorem dX6_addTour_155 : decode cX6_addTour 155 = .ok (.iadd, 1) := by decide +kernel
theorem dX6_addTour_156 : decode cX6_addTour 156 = .ok (.lload_n 2, 1) := by decide +kernel
theorem dX6_addTour_157 : decode cX6_addTour 157 = .ok (.invokestatic 61, 3) := by decide +kernel
theorem dX6_addTour_160 : decode cX6_addTour 160 = .ok (.dastore, 1) := by decide +kernel
theorem dX6_addTour_161 : decode cX6_addTour 161 = .ok (.iload 6, 2) := by decide +kernel
theorem dX6_addTour_163 : decode cX6_addTour 163 = .ok (.ireturn, 1) := by decide +kernel
theorem dX6_book_0 : decode cX6_book 0 = .ok (.aload_n 0, 1) := by decide +kernel
theorem dX6_book_1 : decode cX6_book 1 = .ok (.iload_n 1, 1) := by decide +kernel
theorem dX6_book_2 : decode cX6_book 2 = .ok (.invokevirtual 114, 3) := by decide +kernel
theorem dX6_book_5 : decode cX6_book 5 = .ok (.ifCond .eq 5, 3) := by decide +kernel
theorem dX6_book_8 : decode cX6_book 8 = .ok (.iconst (-1), 1) := by decide +kernel
theorem dX6_book_9 : decode cX6_book 9 = .ok (.ireturn, 1) := by decide +kernel
theorem dX6_book_10 : decode cX6_book 10 = .ok (.iload_n 2, 1) := by decide +kernel
theorem dX6_book_11 : decode cX6_book 11 = .ok (.iconst 1, 1) := by decide +kernel
theorem dX6_book_12 : decode cX6_book 12 = .ok (.bipush 12, 2) := by decide +kernel
theorem dX6_book_14 : decode cX6_book 14 = .ok (.invokestatic 37, 3) := by decide +kernel
theorem dX6_book_17 : decode cX6_book 17 = .ok (.ifCond .ne 6, 3) := by decide +kernel
theorem dX6_book_20 : decode cX6_book 20 = .ok (.bipush (-2), 2) := by decide +kernel
theorem dX6_book_22 : decode cX6_book 22 = .ok (.ireturn, 1) := by decide +kernel
theorem dX6_book_23 : decode cX6_book 23 = .ok (.aload_n 0, 1) := by decide +kernel
theorem dX6_book_24 : decode cX6_book 24 = .ok (.iload_n 1, 1) := by decide +kernel
theorem dX6_book_25 : decode cX6_book 25 = .ok (.invokevirtual 117, 3) := by decide +kernel
theorem dX6_book_28 : decode cX6_book 28 = .ok (.ifCond .ne 6, 3) := by decide +kernel
theorem dX6_book_31 : decode cX6_book 31 = .ok (.bipush (-4), 2) := by decide +kernel
theorem dX6_book_33 : decode cX6_book 33 = .ok (.ireturn, 1) := by decide +kernel
theorem dX6_book_34 : decode cX6_book 34 = .ok (.aload_n 0, 1) := by decide +kernel
theorem dX6_book_35 : decode cX6_book 35 = .ok (.iload_n 1, 1) := by decide +kernel
theorem dX6_book_36 : decode cX6_book 36 = .ok (.iconst 3, 1) := by decide +kernel
theorem dX6_book_37 : decode cX6_book 37 = .ok (.invokevirtual 41, 3) := by decide +kernel
theorem dX6_book_40 : decode cX6_book 40 = .ok (.iload_n 2, 1) := by decide +kernel
theorem dX6_book_41 : decode cX6_book 41 = .ok (.iadd, 1) := by decide +kernel
theorem dX6_book_42 : decode cX6_book 42 = .ok (.bipush 12, 2) := by decide +kernel
theorem dX6_book_44 : decode cX6_book 44 = .ok (.if_icmp .le 6, 3) := by decide +kernel
theorem dX6_book_47 : decode cX6_book 47 = .ok (.bipush (-3), 2) := by decide +kernel
theorem dX6_book_49 : decode cX6_book 49 = .ok (.ireturn, 1) := by decide +kernel
theorem dX6_book_50 : decode cX6_book 50 = .ok (.aload_n 0, 1) := by decide +kernel
theorem dX6_book_51 : decode cX6_book 51 = .ok (.invokevirtual 49, 3) := by decide +kernel
theorem dX6_book_54 : decode cX6_book 54 = .ok (.iload_n 2, 1) := by decide +kernel
theorem dX6_book_55 : decode cX6_book 55 = .ok (.aload_n 0, 1) := by decide +kernel
theorem dX6_book_56 : decode cX6_book 56 = .ok (.iload_n 1, 1) := by decide +kernel
theorem dX6_book_57 : decode cX6_book 57 = .ok (.iconst 1, 1) := by decide +kernel
theorem dX6_book_58 : decode cX6_book 58 = .ok (.invokevirtual 41, 3) := by decide +kernel
theorem dX6_book_61 : decode cX6_book 61 = .ok (.imul, 1) := by decide +kernel
theorem dX6_book_62 : decode cX6_book 62 = .ok (.istore_n 3, 1) := by decide +kernel
theorem dX6_book_63 : decode cX6_book 63 = .ok (.aload_n 0, 1) := by decide +kernel
theorem dX6_book_64 : decode cX6_book 64 = .ok (.iload_n 1, 1) := by decide +kernel
theorem dX6_book_65 : decode cX6_book 65 = .ok (.iconst 3, 1) := by decide +kernel
theorem dX6_book_66 : decode cX6_book 66 = .ok (.aload_n 0, 1) := by decide +kernel
theorem dX6_book_67 : decode cX6_book 67 = .ok (.iload_n 1, 1) := by decide +kernel
theorem dX6_book_68 : decode cX6_book 68 = .ok (.iconst 3, 1) := by decide +kernel
theorem dX6_book_69 : decode cX6_book 69 = .ok (.invokevirtual 41, 3) := by decide +kernel
theorem dX6_book_72 : decode cX6_book 72 = .ok (.iload_n 2, 1) := by decide +kernel
theorem dX6_book_73 : decode cX6_book 73 = .ok (.iadd, 1) := by decide +kernel
theorem dX6_book_74 : decode cX6_book 74 = .ok (.invokevirtual 110, 3) := by decide +kernel
theorem dX6_book_77 : decode cX6_book 77 = .ok (.aload_n 0, 1) := by decide +kernel
theorem dX6_book_78 : decode cX6_book 78 = .ok (.iload_n 1, 1) := by decide +kernel
theorem dX6_book_79 : decode cX6_book 79 = .ok (.iconst 5, 1) := by decide +kernel
theorem dX6_book_80 : decode cX6_book 80 = .ok (.aload_n 0, 1) := by decide +kernel
theorem dX6_book_81 : decode cX6_book 81 = .ok (.iload_n 1, 1) := by decide +kernel
theorem dX6_book_82 : decode cX6_book 82 = .ok (.iconst 5, 1) := by decide +kernel
theorem dX6_book_83 : decode cX6_book 83 = .ok (.invokevirtual 41, 3) := by decide +kernel
theorem dX6_book_86 : decode cX6_book 86 = .ok (.iload_n 3, 1) := by decide +kernel
theorem dX6_book_87 : decode cX6_book 87 = .ok (.iadd, 1) := by decide +kernel
theorem dX6_book_88 : decode cX6_book 88 = .ok (.invokevirtual 110, 3) := by decide +kernel
theorem dX6_book_91 : decode cX6_book 91 = .ok (.iload_n 3, 1) := by decide +kernel
theorem dX6_book_92 : decode cX6_book 92 = .ok (.ireturn, 1) := by decide +kernel
theorem dX6_refunds_0 : decode cX6_refunds 0 = .ok (.aload_n 0, 1) := by decide +kernel
theorem dX6_refunds_1 : decode cX6_refunds 1 = .ok (.iload_n 1, 1) := by decide +kernel
theorem dX6_refunds_2 : decode cX6_refunds 2 = .ok (.iconst 5, 1) := by decide +kernel
theorem dX6_refunds_3 : decode cX6_refunds 3 = .ok (.aload_n 0, 1) := by decide +kernel
theorem dX6_refunds_4 : decode cX6_refunds 4 = .ok (.iload_n 1, 1) := by decide +kernel
theorem dX6_refunds_5 : decode cX6_refunds 5 = .ok (.iconst 5, 1) := by decide +kernel
theorem dX6_refunds_6 : decode cX6_refunds 6 = .ok (.invokevirtual 41, 3) := by decide +kernel
theorem dX6_refunds_9 : decode cX6_refunds 9 = .ok (.iload_n 2, 1) := by decide +kernel
theorem dX6_refunds_10 : decode cX6_refunds 10 = .ok (.isub, 1) := by decide +kernel
theorem dX6_refunds_11 : decode cX6_refunds 11 = .ok (.invokevirtual 110, 3) := by decide +kernel
theorem dX6_refunds_14 : decode cX6_refunds 14 = .ok (.aload_n 0, 1) := by decide +kernel
theorem dX6_refunds_15 : decode cX6_refunds 15 = .ok (.getfield 7, 3) := by decide +kernel
theorem dX6_refunds_18 : decode cX6_refunds 18 = .ok (.iconst 4, 1) := by decide +kernel
theorem dX6_refunds_19 : decode cX6_refunds 19 = .ok (.dup2, 1) := by decide +kernel
theorem dX6_refunds_20 : decode cX6_refunds 20 = .ok (.iaload, 1) := by decide +kernel
theorem dX6_refunds_21 : decode cX6_refunds 21 = .ok (.iload_n 2, 1) := by decide +kernel
theorem dX6_refunds_22 : decode cX6_refunds 22 = .ok (.iadd, 1) := by decide +kernel
theorem dX6_refunds_23 : decode cX6_refunds 23 = .ok (.iastore, 1) := by decide +kernel
theorem dX6_refunds_24 : decode cX6_refunds 24 = .ok (.return_, 1) := by decide +kernel
theorem dX6_leave_0 : decode cX6_leave 0 = .ok (.aload_n 0, 1) := by decide +kernel
theorem dX6_leave_1 : decode cX6_leave 1 = .ok (.iload_n 1, 1) := by decide +kernel
theorem dX6_leave_2 : decode cX6_leave 2 = .ok (.invokevirtual 114, 3) := by decide +kernel
theorem dX6_leave_5 : decode cX6_leave 5 = .ok (.ifCond .eq 5, 3) := by decide +kernel
theorem dX6_leave_8 : decode cX6_leave 8 = .ok (.iconst (-1), 1) := by decide +kernel
theorem dX6_leave_9 : decode cX6_leave 9 = .ok (.ireturn, 1) := by decide +kernel
theorem dX6_leave_10 : decode cX6_leave 10 = .ok (.iload_n 2, 1) := by decide +kernel
theorem dX6_leave_11 : decode cX6_leave 11 = .ok (.iconst 1, 1) := by decide +kernel
theorem dX6_leave_12 : decode cX6_leave 12 = .ok (.bipush 12, 2) := by decide +kernel
theorem dX6_leave_14 : decode cX6_leave 14 = .ok (.invokestatic 37, 3) := by decide +kernel
theorem dX6_leave_17 : decode cX6_leave 17 = .ok (.ifCond .ne 6, 3) := by decide +kernel
theorem dX6_leave_20 : decode cX6_leave 20 = .ok (.bipush (-2), 2) := by decide +kernel
theorem dX6_leave_22 : decode cX6_leave 22 = .ok (.ireturn, 1) := by decide +kernel
theorem dX6_leave_23 : decode cX6_leave 23 = .ok (.aload_n 0, 1) := by decide +kernel
theorem dX6_leave_24 : decode cX6_leave 24 = .ok (.iload_n 1, 1) := by decide +kernel
theorem dX6_leave_25 : decode cX6_leave 25 = .ok (.invokevirtual 117, 3) := by decide +kernel
theorem dX6_leave_28 : decode cX6_leave 28 = .ok (.ifCond .eq 13, 3) := by decide +kernel
theorem dX6_leave_31 : decode cX6_leave 31 = .ok (.aload_n 0, 1) := by decide +kernel
theorem dX6_leave_32 : decode cX6_leave 32 = .ok (.iload_n 1, 1) := by decide +kernel
theorem dX6_leave_33 : decode cX6_leave 33 = .ok (.iconst 3, 1) := by decide +kernel
theorem dX6_leave_34 : decode cX6_leave 34 = .ok (.invokevirtual 41, 3) := by decide +kernel
theorem dX6_leave_37 : decode cX6_leave 37 = .ok (.iload_n 2, 1) := by decide +kernel
theorem dX6_leave_38 : decode cX6_leave 38 = .ok (.if_icmp .ge 6, 3) := by decide +kernel
theorem dX6_leave_41 : decode cX6_leave 41 = .ok (.bipush (-4), 2) := by decide +kernel
theorem dX6_leave_43 : decode cX6_leave 43 = .ok (.ireturn, 1) := by decide +kernel
theorem dX6_leave_44 : decode cX6_leave 44 = .ok (.aload_n 0, 1) := by decide +kernel
theorem dX6_leave_45 : decode cX6_leave 45 = .ok (.invokevirtual 49, 3) := by decide +kernel
theorem dX6_leave_48 : decode cX6_leave 48 = .ok (.aload_n 0, 1) := by decide +kernel
theorem dX6_leave_49 : decode cX6_leave 49 = .ok (.iload_n 1, 1) := by decide +kernel
theorem dX6_leave_50 : decode cX6_leave 50 = .ok (.iconst 0, 1) := by decide +kernel
theorem dX6_leave_51 : decode cX6_leave 51 = .ok (.invokevirtual 41, 3) := by decide +kernel
theorem dX6_leave_54 : decode cX6_leave 54 = .ok (.aload_n 0, 1) := by decide +kernel
theorem dX6_leave_55 : decode cX6_leave 55 = .ok (.getfield 7, 3) := by decide +kernel
theorem dX6_leave_58 : decode cX6_leave 58 = .ok (.iconst 0, 1) := by decide +kernel
theorem dX6_leave_59 : decode cX6_leave 59 = .ok (.iaload, 1) := by decide +kernel
theorem dX6_leave_60 : decode cX6_leave 60 = .ok (.isub, 1) := by decide +kernel
theorem dX6_leave_61 : decode cX6_leave 61 = .ok (.istore_n 3, 1) := by decide +kernel
theorem dX6_leave_62 : decode cX6_leave 62 = .ok (.iload_n 3, 1) := by decide +kernel
theorem dX6_leave_63 : decode cX6_leave 63 = .ok (.bipush 14, 2) := by decide +kernel
theorem dX6_leave_65 : decode cX6_leave 65 = .ok (.if_icmp .lt 7, 3) := by decide +kernel
theorem dX6_leave_68 : decode cX6_leave 68 = .ok (.dconst 1, 1) := by decide +kernel
theorem dX6_leave_69 : decode cX6_leave 69 = .ok (.goto 27, 3) := by decide +kernel
theorem dX6_leave_72 : decode cX6_leave 72 = .ok (.iload_n 3, 1) := by decide +kernel
theorem dX6_leave_73 : decode cX6_leave 73 = .ok (.bipush 7, 2) := by decide +kernel
theorem dX6_leave_75 : decode cX6_leave 75 = .ok (.if_icmp .lt 9, 3) := by decide +kernel
theorem dX6_leave_78 : decode cX6_leave 78 = .ok (.ldc2_w 120, 3) := by decide +kernel
theorem dX6_leave_81 : decode cX6_leave 81 = .ok (.goto 15, 3) := by decide +kernel
theorem dX6_leave_84 : decode cX6_leave 84 = .ok (.iload_n 3, 1) := by decide +kernel
theorem dX6_leave_85 : decode cX6_leave 85 = .ok (.iconst 3, 1) := by decide +kernel
theorem dX6_leave_86 : decode cX6_leave 86 = .ok (.if_icmp .lt 9, 3) := by decide +kernel
theorem dX6_leave_89 : decode cX6_leave 89 = .ok (.ldc2_w 122, 3) := by decide +kernel
theorem dX6_leave_92 : decode cX6_leave 92 = .ok (.goto 4, 3) := by decide +kernel
theorem dX6_leave_95 : decode cX6_leave 95 = .ok (.dconst 0, 1) := by decide +kernel
theorem dX6_leave_96 : decode cX6_leave 96 = .ok (.dstore 4, 2) := by decide +kernel
theorem dX6_leave_98 : decode cX6_leave 98 = .ok (.aload_n 0, 1) := by decide +kernel
theorem dX6_leave_99 : decode cX6_leave 99 = .ok (.iload_n 1, 1) := by decide +kernel
theorem dX6_leave_100 : decode cX6_leave 100 = .ok (.iconst 5, 1) := by decide +kernel
theorem dX6_leave_101 : decode cX6_leave 101 = .ok (.invokevirtual 41, 3) := by decide +kernel
theorem dX6_leave_104 : decode cX6_leave 104 = .ok (.i2d, 1) := by decide +kernel
theorem dX6_leave_105 : decode cX6_leave 105 = .ok (.aload_n 0, 1) := by decide +kernel
theorem dX6_leave_106 : decode cX6_leave 106 = .ok (.iload_n 1, 1) := by decide +kernel
theorem dX6_leave_107 : decode cX6_leave 107 = .ok (.iconst 3, 1) := by decide +kernel
theorem dX6_leave_108 : decode cX6_leave 108 = .ok (.invokevirtual 41, 3) := by decide +kernel
theorem dX6_leave_111 : decode cX6_leave 111 = .ok (.i2d, 1) := by decide +kernel
theorem dX6_leave_112 : decode cX6_leave 112 = .ok (.ddiv, 1) := by decide +kernel
theorem dX6_leave_113 : decode cX6_leave 113 = .ok (.iload_n 2, 1) := by decide +kernel
theorem dX6_leave_114 : decode cX6_leave 114 = .ok (.i2d, 1) := by decide +kernel
theorem dX6_leave_115 : decode cX6_leave 115 = .ok (.dmul, 1) := by decide +kernel
theorem dX6_leave_116 : decode cX6_leave 116 = .ok (.dload 4, 2) := by decide +kernel
theorem dX6_leave_118 : decode cX6_leave 118 = .ok (.dmul, 1) := by decide +kernel
theorem dX6_leave_119 : decode cX6_leave 119 = .ok (.d2i, 1) := by decide +kernel
theorem dX6_leave_120 : decode cX6_leave 120 = .ok (.istore 6, 2) := by decide +kernel
theorem dX6_leave_122 : decode cX6_leave 122 = .ok (.aload_n 0, 1) := by decide +kernel
theorem dX6_leave_123 : decode cX6_leave 123 = .ok (.iload_n 1, 1) := by decide +kernel
theorem dX6_leave_124 : decode cX6_leave 124 = .ok (.iconst 3, 1) := by decide +kernel
theorem dX6_leave_125 : decode cX6_leave 125 = .ok (.aload_n 0, 1) := by decide +kernel
theorem dX6_leave_126 : decode cX6_leave 126 = .ok (.iload_n 1, 1) := by decide +kernel
theorem dX6_leave_127 : decode cX6_leave 127 = .ok (.iconst 3, 1) := by decide +kernel
theorem dX6_leave_128 : decode cX6_leave 128 = .ok (.invokevirtual 41, 3) := by decide +kernel
theorem dX6_leave_131 : decode cX6_leave 131 = .ok (.iload_n 2, 1) := by decide +kernel
theorem dX6_leave_132 : decode cX6_leave 132 = .ok (.isub, 1) := by decide +kernel
theorem dX6_leave_133 : decode cX6_leave 133 = .ok (.invokevirtual 110, 3) := by decide +kernel
theorem dX6_leave_136 : decode cX6_leave 136 = .ok (.aload_n 0, 1) := by decide +kernel
theorem dX6_leave_137 : decode cX6_leave 137 = .ok (.iload_n 1, 1) := by decide +kernel
theorem dX6_leave_138 : decode cX6_leave 138 = .ok (.iload 6, 2) := by decide +kernel
theorem dX6_leave_140 : decode cX6_leave 140 = .ok (.invokevirtual 124, 3) := by decide +kernel
theorem dX6_leave_143 : decode cX6_leave 143 = .ok (.iload 6, 2) := by decide +kernel
theorem dX6_leave_145 : decode cX6_leave 145 = .ok (.ireturn, 1) := by decide +kernel
theorem dX6_leads_0 : decode cX6_leads 0 = .ok (.iconst 0, 1) := by decide +kernel
theorem dX6_leads_1 : decode cX6_leads 1 = .ok (.istore_n 3, 1) := by decide +kernel
theorem dX6_leads_2 : decode cX6_leads 2 = .ok (.iload_n 3, 1) := by decide +kernel
theorem dX6_leads_3 : decode cX6_leads 3 = .ok (.aload_n 0, 1) := by decide +kernel
theorem dX6_leads_4 : decode cX6_leads 4 = .ok (.iload_n 2, 1) := by decide +kernel
theorem dX6_leads_5 : decode cX6_leads 5 = .ok (.iconst 4, 1) := by decide +kernel
theorem dX6_leads_6 : decode cX6_leads 6 = .ok (.invokevirtual 41, 3) := by decide +kernel
theorem dX6_leads_9 : decode cX6_leads 9 = .ok (.if_icmp .ge 21, 3) := by decide +kernel
theorem dX6_leads_12 : decode cX6_leads 12 = .ok (.aload_n 0, 1) := by decide +kernel
theorem dX6_leads_13 : decode cX6_leads 13 = .ok (.iload_n 2, 1) := by decide +kernel
theorem dX6_leads_14 : decode cX6_leads 14 = .ok (.iload_n 3, 1) := by decide +kernel
theorem dX6_leads_15 : decode cX6_leads 15 = .ok (.invokevirtual 87, 3) := by decide +kernel
theorem dX6_leads_18 : decode cX6_leads 18 = .ok (.iload_n 1, 1) := by decide +kernel
theorem dX6_leads_19 : decode cX6_leads 19 = .ok (.if_icmp .ne 5, 3) := by decide +kernel
theorem dX6_leads_22 : decode cX6_leads 22 = .ok (.iconst 1, 1) := by decide +kernel
theorem dX6_leads_23 : decode cX6_leads 23 = .ok (.ireturn, 1) := by decide +kernel
theorem dX6_leads_24 : decode cX6_leads 24 = .ok (.iinc 3 1, 3) := by decide +kernel
theorem dX6_leads_27 : decode cX6_leads 27 = .ok (.goto (-25), 3) := by decide +kernel
theorem dX6_leads_30 : decode cX6_leads 30 = .ok (.iconst 0, 1) := by decide +kernel
theorem dX6_leads_31 : decode cX6_leads 31 = .ok (.ireturn, 1) := by decide +kernel
theorem dX6_isBusy_0 : decode cX6_isBusy 0 = .ok (.iconst 0, 1) := by decide +kernel
theorem dX6_isBusy_1 : decode cX6_isBusy 1 = .ok (.istore_n 3, 1) := by decide +kernel
theorem dX6_isBusy_2 : decode cX6_isBusy 2 = .ok (.iload_n 3, 1) := by decide +kernel
theorem dX6_isBusy_3 : decode cX6_isBusy 3 = .ok (.aload_n 0, 1) := by decide +kernel
theorem dX6_isBusy_4 : decode cX6_isBusy 4 = .ok (.getfield 7, 3) := by decide +kernel
theorem dX6_isBusy_7 : decode cX6_isBusy 7 = .ok (.iconst 3, 1) := by decide +kernel
theorem dX6_isBusy_8 : decode cX6_isBusy 8 = .ok (.iaload, 1) := by decide +kernel
theorem dX6_isBusy_9 : decode cX6_isBusy 9 = .ok (.if_icmp .ge 38, 3) := by decide +kernel
theorem dX6_isBusy_12 : decode cX6_isBusy 12 = .ok (.aload_n 0, 1) := by decide +kernel
theorem dX6_isBusy_13 : decode cX6_isBusy 13 = .ok (.iload_n 3, 1) := by decide +kernel
theorem dX6_isBusy_14 : decode cX6_isBusy 14 = .ok (.invokevirtual 117, 3) := by decide +kernel
theorem dX6_isBusy_17 : decode cX6_isBusy 17 = .ok (.ifCond .eq 24, 3) := by decide +kernel
theorem dX6_isBusy_20 : decode cX6_isBusy 20 = .ok (.aload_n 0, 1) := by decide +kernel
theorem dX6_isBusy_21 : decode cX6_isBusy 21 = .ok (.iload_n 3, 1) := by decide +kernel
theorem dX6_isBusy_22 : decode cX6_isBusy 22 = .ok (.iconst 0, 1) := by decide +kernel
theorem dX6_isBusy_23 : decode cX6_isBusy 23 = .ok (.invokevirtual 41, 3) := by decide +kernel
theorem dX6_isBusy_26 : decode cX6_isBusy 26 = .ok (.iload_n 2, 1) := by decide +kernel
theorem dX6_isBusy_27 : decode cX6_isBusy 27 = .ok (.if_icmp .ne 14, 3) := by decide +kernel
theorem dX6_isBusy_30 : decode cX6_isBusy 30 = .ok (.aload_n 0, 1) := by decide +kernel
theorem dX6_isBusy_31 : decode cX6_isBusy 31 = .ok (.iload_n 1, 1) := by decide +kernel
theorem dX6_isBusy_32 : decode cX6_isBusy 32 = .ok (.iload_n 3, 1) := by decide +kernel
theorem dX6_isBusy_33 : decode cX6_isBusy 33 = .ok (.invokevirtual 128, 3) := by decide +kernel
theorem dX6_isBusy_36 : decode cX6_isBusy 36 = .ok (.ifCond .eq 5, 3) := by decide +kernel
theorem dX6_isBusy_39 : decode cX6_isBusy 39 = .ok (.iconst 1, 1) := by decide +kernel
theorem dX6_isBusy_40 : decode cX6_isBusy 40 = .ok (.ireturn, 1) := by decide +kernel
theorem dX6_isBusy_41 : decode cX6_isBusy 41 = .ok (.iinc 3 1, 3) := by decide +kernel
theorem dX6_isBusy_44 : decode cX6_isBusy 44 = .ok (.goto (-42), 3) := by decide +kernel
theorem dX6_isBusy_47 : decode cX6_isBusy 47 = .ok (.iconst 0, 1) := by decide +kernel
theorem dX6_isBusy_48 : decode cX6_isBusy 48 = .ok (.ireturn, 1) := by decide +kernel
theorem dX6_mayLead_0 : decode cX6_mayLead 0 = .ok (.aload_n 0, 1) := by decide +kernel
theorem dX6_mayLead_1 : decode cX6_mayLead 1 = .ok (.iload_n 2, 1) := by decide +kernel
theorem dX6_mayLead_2 : decode cX6_mayLead 2 = .ok (.invokevirtual 117, 3) := by decide +kernel
theorem dX6_mayLead_5 : decode cX6_mayLead 5 = .ok (.ifCond .eq 36, 3) := by decide +kernel
theorem dX6_mayLead_8 : decode cX6_mayLead 8 = .ok (.aload_n 0, 1) := by decide +kernel
theorem dX6_mayLead_9 : decode cX6_mayLead 9 = .ok (.iload_n 1, 1) := by decide +kernel
theorem dX6_mayLead_10 : decode cX6_mayLead 10 = .ok (.iconst 1, 1) := by decide +kernel
theorem dX6_mayLead_11 : decode cX6_mayLead 11 = .ok (.invokevirtual 56, 3) := by decide +kernel
theorem dX6_mayLead_14 : decode cX6_mayLead 14 = .ok (.aload_n 0, 1) := by decide +kernel
theorem dX6_mayLead_15 : decode cX6_mayLead 15 = .ok (.iload_n 2, 1) := by decide +kernel
theorem dX6_mayLead_16 : decode cX6_mayLead 16 = .ok (.iconst 0, 1) := by decide +kernel
theorem dX6_mayLead_17 : decode cX6_mayLead 17 = .ok (.invokevirtual 41, 3) := by decide +kernel
theorem dX6_mayLead_20 : decode cX6_mayLead 20 = .ok (.if_icmp .lt 21, 3) := by decide +kernel
theorem dX6_mayLead_23 : decode cX6_mayLead 23 = .ok (.aload_n 0, 1) := by decide +kernel
theorem dX6_mayLead_24 : decode cX6_mayLead 24 = .ok (.iload_n 1, 1) := by decide +kernel
theorem dX6_mayLead_25 : decode cX6_mayLead 25 = .ok (.aload_n 0, 1) := by decide +kernel
theorem dX6_mayLead_26 : decode cX6_mayLead 26 = .ok (.iload_n 2, 1) := by decide +kernel
theorem dX6_mayLead_27 : decode cX6_mayLead 27 = .ok (.iconst 0, 1) := by decide +kernel
theorem dX6_mayLead_28 : decode cX6_mayLead 28 = .ok (.invokevirtual 41, 3) := by decide +kernel
theorem dX6_mayLead_31 : decode cX6_mayLead 31 = .ok (.invokevirtual 131, 3) := by decide +kernel
theorem dX6_mayLead_34 : decode cX6_mayLead 34 = .ok (.ifCond .ne 7, 3) := by decide +kernel
theorem dX6_mayLead_37 : decode cX6_mayLead 37 = .ok (.iconst 1, 1) := by decide +kernel
theorem dX6_mayLead_38 : decode cX6_mayLead 38 = .ok (.goto 4, 3) := by decide +kernel
theorem dX6_mayLead_41 : decode cX6_mayLead 41 = .ok (.iconst 0, 1) := by decide +kernel
theorem dX6_mayLead_42 : decode cX6_mayLead 42 = .ok (.ireturn, 1) := by decide +kernel
theorem dX6_lead_0 : decode cX6_lead 0 = .ok (.aload_n 0, 1) := by decide +kernel
theorem dX6_lead_1 : decode cX6_lead 1 = .ok (.iload_n 1, 1) := by decide +kernel
theorem dX6_lead_2 : decode cX6_lead 2 = .ok (.invokevirtual 52, 3) := by decide +kernel
theorem dX6_lead_5 : decode cX6_lead 5 = .ok (.ifCond .ne 11, 3) := by decide +kernel
theorem dX6_lead_8 : decode cX6_lead 8 = .ok (.aload_n 0, 1) := by decide +kernel
theorem dX6_lead_9 : decode cX6_lead 9 = .ok (.iload_n 2, 1) := by decide +kernel
theorem dX6_lead_10 : decode cX6_lead 10 = .ok (.invokevirtual 114, 3) := by decide +kernel
theorem dX6_lead_13 : decode cX6_lead 13 = .ok (.ifCond .eq 5, 3) := by decide +kernel
theorem dX6_lead_16 : decode cX6_lead 16 = .ok (.iconst (-1), 1) := by decide +kernel
theorem dX6_lead_17 : decode cX6_lead 17 = .ok (.ireturn, 1) := by decide +kernel
theorem dX6_lead_18 : decode cX6_lead 18 = .ok (.aload_n 0, 1) := by decide +kernel
theorem dX6_lead_19 : decode cX6_lead 19 = .ok (.iload_n 1, 1) := by decide +kernel
theorem dX6_lead_20 : decode cX6_lead 20 = .ok (.iload_n 2, 1) := by decide +kernel
theorem dX6_lead_21 : decode cX6_lead 21 = .ok (.invokevirtual 134, 3) := by decide +kernel
theorem dX6_lead_24 : decode cX6_lead 24 = .ok (.ifCond .ne 6, 3) := by decide +kernel
theorem dX6_lead_27 : decode cX6_lead 27 = .ok (.bipush (-4), 2) := by decide +kernel
theorem dX6_lead_29 : decode cX6_lead 29 = .ok (.ireturn, 1) := by decide +kernel
theorem dX6_lead_30 : decode cX6_lead 30 = .ok (.aload_n 0, 1) := by decide +kernel
theorem dX6_lead_31 : decode cX6_lead 31 = .ok (.iload_n 2, 1) := by decide +kernel
theorem dX6_lead_32 : decode cX6_lead 32 = .ok (.iconst 4, 1) := by decide +kernel
theorem dX6_lead_33 : decode cX6_lead 33 = .ok (.invokevirtual 41, 3) := by decide +kernel
theorem dX6_lead_36 : decode cX6_lead 36 = .ok (.iconst 4, 1) := by decide +kernel
theorem dX6_lead_37 : decode cX6_lead 37 = .ok (.if_icmp .ne 6, 3) := by decide +kernel
theorem dX6_lead_40 : decode cX6_lead 40 = .ok (.bipush (-3), 2) := by decide +kernel
theorem dX6_lead_42 : decode cX6_lead 42 = .ok (.ireturn, 1) := by decide +kernel
theorem dX6_lead_43 : decode cX6_lead 43 = .ok (.aload_n 0, 1) := by decide +kernel
theorem dX6_lead_44 : decode cX6_lead 44 = .ok (.invokevirtual 49, 3) := by decide +kernel
theorem dX6_lead_47 : decode cX6_lead 47 = .ok (.aload_n 0, 1) := by decide +kernel
theorem dX6_lead_48 : decode cX6_lead 48 = .ok (.iload_n 2, 1) := by decide +kernel
theorem dX6_lead_49 : decode cX6_lead 49 = .ok (.bipush 8, 2) := by decide +kernel
theorem dX6_lead_51 : decode cX6_lead 51 = .ok (.aload_n 0, 1) := by decide +kernel
theorem dX6_lead_52 : decode cX6_lead 52 = .ok (.iload_n 2, 1) := by decide +kernel
theorem dX6_lead_53 : decode cX6_lead 53 = .ok (.iconst 4, 1) := by decide +kernel
theorem dX6_lead_54 : decode cX6_lead 54 = .ok (.invokevirtual 41, 3) := by decide +kernel
theorem dX6_lead_57 : decode cX6_lead 57 = .ok (.iadd, 1) := by decide +kernel
theorem dX6_lead_58 : decode cX6_lead 58 = .ok (.iload_n 1, 1) := by decide +kernel
theorem dX6_lead_59 : decode cX6_lead 59 = .ok (.invokevirtual 110, 3) := by decide +kernel
theorem dX6_lead_62 : decode cX6_lead 62 = .ok (.aload_n 0, 1) := by decide +kernel
theorem dX6_lead_63 : decode cX6_lead 63 = .ok (.iload_n 2, 1) := by decide +kernel
theorem dX6_lead_64 : decode cX6_lead 64 = .ok (.iconst 4, 1) := by decide +kernel
theorem dX6_lead_65 : decode cX6_lead 65 = .ok (.aload_n 0, 1) := by decide +kernel
theorem dX6_lead_66 : decode cX6_lead 66 = .ok (.iload_n 2, 1) := by decide +kernel
theorem dX6_lead_67 : decode cX6_lead 67 = .ok (.iconst 4, 1) := by decide +kernel
theorem dX6_lead_68 : decode cX6_lead 68 = .ok (.invokevirtual 41, 3) := by decide +kernel
theorem dX6_lead_71 : decode cX6_lead 71 = .ok (.iconst 1, 1) := by decide +kernel
theorem dX6_lead_72 : decode cX6_lead 72 = .ok (.iadd, 1) := by decide +kernel
theorem dX6_lead_73 : decode cX6_lead 73 = .ok (.invokevirtual 110, 3) := by decide +kernel
theorem dX6_lead_76 : decode cX6_lead 76 = .ok (.aload_n 0, 1) := by decide +kernel
theorem dX6_lead_77 : decode cX6_lead 77 = .ok (.iload_n 2, 1) := by decide +kernel
theorem dX6_lead_78 : decode cX6_lead 78 = .ok (.iload_n 1, 1) := by decide +kernel
theorem dX6_lead_79 : decode cX6_lead 79 = .ok (.invokevirtual 90, 3) := by decide +kernel
theorem dX6_lead_82 : decode cX6_lead 82 = .ok (.ireturn, 1) := by decide +kernel
theorem dX6_release_0 : decode cX6_release 0 = .ok (.aload_n 0, 1) := by decide +kernel
theorem dX6_release_1 : decode cX6_release 1 = .ok (.iload_n 1, 1) := by decide +kernel
theorem dX6_release_2 : decode cX6_release 2 = .ok (.invokevirtual 52, 3) := by decide +kernel
theorem dX6_release_5 : decode cX6_release 5 = .ok (.ifCond .ne 11, 3) := by decide +kernel
theorem dX6_release_8 : decode cX6_release 8 = .ok (.aload_n 0, 1) := by decide +kernel
theorem dX6_release_9 : decode cX6_release 9 = .ok (.iload_n 2, 1) := by decide +kernel
theorem dX6_release_10 : decode cX6_release 10 = .ok (.invokevirtual 114, 3) := by decide +kernel
theorem dX6_release_13 : decode cX6_release 13 = .ok (.ifCond .eq 5, 3) := by decide +kernel
theorem dX6_release_16 : decode cX6_release 16 = .ok (.iconst (-1), 1) := by decide +kernel
theorem dX6_release_17 : decode cX6_release 17 = .ok (.ireturn, 1) := by decide +kernel
theorem dX6_release_18 : decode cX6_release 18 = .ok (.aload_n 0, 1) := by decide +kernel
theorem dX6_release_19 : decode cX6_release 19 = .ok (.iload_n 2, 1) := by decide +kernel
theorem dX6_release_20 : decode cX6_release 20 = .ok (.invokevirtual 117, 3) := by decide +kernel
theorem dX6_release_23 : decode cX6_release 23 = .ok (.ifCond .ne 6, 3) := by decide +kernel
theorem dX6_release_26 : decode cX6_release 26 = .ok (.bipush (-4), 2) := by decide +kernel
theorem dX6_release_28 : decode cX6_release 28 = .ok (.ireturn, 1) := by decide +kernel
theorem dX6_release_29 : decode cX6_release 29 = .ok (.aload_n 0, 1) := by decide +kernel
theorem dX6_release_30 : decode cX6_release 30 = .ok (.iload_n 1, 1) := by decide +kernel
theorem dX6_release_31 : decode cX6_release 31 = .ok (.iload_n 2, 1) := by decide +kernel
theorem dX6_release_32 : decode cX6_release 32 = .ok (.invokevirtual 128, 3) := by decide +kernel
theorem dX6_release_35 : decode cX6_release 35 = .ok (.ifCond .ne 6, 3) := by decide +kernel
theorem dX6_release_38 : decode cX6_release 38 = .ok (.bipush (-5), 2) := by decide +kernel
theorem dX6_release_40 : decode cX6_release 40 = .ok (.ireturn, 1) := by decide +kernel
theorem dX6_release_41 : decode cX6_release 41 = .ok (.aload_n 0, 1) := by decide +kernel
theorem dX6_release_42 : decode cX6_release 42 = .ok (.invokevirtual 49, 3) := by decide +kernel
theorem dX6_release_45 : decode cX6_release 45 = .ok (.iconst 0, 1) := by decide +kernel
theorem dX6_release_46 : decode cX6_release 46 = .ok (.istore_n 3, 1) := by decide +kernel
theorem dX6_release_47 : decode cX6_release 47 = .ok (.iconst 0, 1) := by decide +kernel
theorem dX6_release_48 : decode cX6_release 48 = .ok (.istore 4, 2) := by decide +kernel
theorem dX6_release_50 : decode cX6_release 50 = .ok (.iload 4, 2) := by decide +kernel
theorem dX6_release_52 : decode cX6_release 52 = .ok (.aload_n 0, 1) := by decide +kernel
theorem dX6_release_53 : decode cX6_release 53 = .ok (.iload_n 2, 1) := by decide +kernel
theorem dX6_release_54 : decode cX6_release 54 = .ok (.iconst 4, 1) := by decide +kernel
theorem dX6_release_55 : decode cX6_release 55 = .ok (.invokevirtual 41, 3) := by decide +kernel
theorem dX6_release_58 : decode cX6_release 58 = .ok (.if_icmp .ge 39, 3) := by decide +kernel
theorem dX6_release_61 : decode cX6_release 61 = .ok (.aload_n 0, 1) := by decide +kernel
theorem dX6_release_62 : decode cX6_release 62 = .ok (.iload_n 2, 1) := by decide +kernel
theorem dX6_release_63 : decode cX6_release 63 = .ok (.iload 4, 2) := by decide +kernel
theorem dX6_release_65 : decode cX6_release 65 = .ok (.invokevirtual 87, 3) := by decide +kernel
theorem dX6_release_68 : decode cX6_release 68 = .ok (.iload_n 1, 1) := by decide +kernel
theorem dX6_release_69 : decode cX6_release 69 = .ok (.if_icmp .eq 22, 3) := by decide +kernel
theorem dX6_release_72 : decode cX6_release 72 = .ok (.aload_n 0, 1) := by decide +kernel
theorem dX6_release_73 : decode cX6_release 73 = .ok (.iload_n 2, 1) := by decide +kernel
theorem dX6_release_74 : decode cX6_release 74 = .ok (.bipush 8, 2) := by decide +kernel
theorem dX6_release_76 : decode cX6_release 76 = .ok (.iload_n 3, 1) := by decide +kernel
theorem dX6_release_77 : decode cX6_release 77 = .ok (.iadd, 1) := by decide +kernel
theorem dX6_release_78 : decode cX6_release 78 = .ok (.aload_n 0, 1) := by decide +kernel
theorem dX6_release_79 : decode cX6_release 79 = .ok (.iload_n 2, 1) := by decide +kernel
theorem dX6_release_80 : decode cX6_release 80 = .ok (.iload 4, 2) := by decide +kernel
theorem dX6_release_82 : decode cX6_release 82 = .ok (.invokevirtual 87, 3) := by decide +kernel
theorem dX6_release_85 : decode cX6_release 85 = .ok (.invokevirtual 110, 3) := by decide +kernel
theorem dX6_release_88 : decode cX6_release 88 = .ok (.iinc 3 1, 3) := by decide +kernel
theorem dX6_release_91 : decode cX6_release 91 = .ok (.iinc 4 1, 3) := by decide +kernel
theorem dX6_release_94 : decode cX6_release 94 = .ok (.goto (-44), 3) := by decide +kernel
theorem dX6_release_97 : decode cX6_release 97 = .ok (.aload_n 0, 1) := by decide +kernel
theorem dX6_release_98 : decode cX6_release 98 = .ok (.iload_n 2, 1) := by decide +kernel
theorem dX6_release_99 : decode cX6_release 99 = .ok (.iconst 4, 1) := by decide +kernel
theorem dX6_release_100 : decode cX6_release 100 = .ok (.iload_n 3, 1) := by decide +kernel
theorem dX6_release_101 : decode cX6_release 101 = .ok (.invokevirtual 110, 3) := by decide +kernel
theorem dX6_release_104 : decode cX6_release 104 = .ok (.aload_n 0, 1) := by decide +kernel
theorem dX6_release_105 : decode cX6_release 105 = .ok (.iload_n 2, 1) := by decide +kernel
theorem dX6_release_106 : decode cX6_release 106 = .ok (.invokevirtual 105, 3) := by decide +kernel
theorem dX6_release_109 : decode cX6_release 109 = .ok (.ireturn, 1) := by decide +kernel
theorem dX6_mayMerge_0 : decode cX6_mayMerge 0 = .ok (.aload_n 0, 1) := by decide +kernel
theorem dX6_mayMerge_1 : decode cX6_mayMerge 1 = .ok (.iload_n 1, 1) := by decide +kernel
theorem dX6_mayMerge_2 : decode cX6_mayMerge 2 = .ok (.invokevirtual 117, 3) := by decide +kernel
theorem dX6_mayMerge_5 : decode cX6_mayMerge 5 = .ok (.ifCond .eq 30, 3) := by decide +kernel
theorem dX6_mayMerge_8 : decode cX6_mayMerge 8 = .ok (.aload_n 0, 1) := by decide +kernel
theorem dX6_mayMerge_9 : decode cX6_mayMerge 9 = .ok (.iload_n 2, 1) := by decide +kernel
theorem dX6_mayMerge_10 : decode cX6_mayMerge 10 = .ok (.invokevirtual 117, 3) := by decide +kernel
theorem dX6_mayMerge_13 : decode cX6_mayMerge 13 = .ok (.ifCond .eq 22, 3) := by decide +kernel
theorem dX6_mayMerge_16 : decode cX6_mayMerge 16 = .ok (.aload_n 0, 1) := by decide +kernel
theorem dX6_mayMerge_17 : decode cX6_mayMerge 17 = .ok (.iload_n 1, 1) := by decide +kernel
theorem dX6_mayMerge_18 : decode cX6_mayMerge 18 = .ok (.iconst 0, 1) := by decide +kernel
theorem dX6_mayMerge_19 : decode cX6_mayMerge 19 = .ok (.invokevirtual 41, 3) := by decide +kernel
theorem dX6_mayMerge_22 : decode cX6_mayMerge 22 = .ok (.aload_n 0, 1) := by decide +kernel
theorem dX6_mayMerge_23 : decode cX6_mayMerge 23 = .ok (.iload_n 2, 1) := by decide +kernel
theorem dX6_mayMerge_24 : decode cX6_mayMerge 24 = .ok (.iconst 0, 1) := by decide +kernel
theorem dX6_mayMerge_25 : decode cX6_mayMerge 25 = .ok (.invokevirtual 41, 3) := by decide +kernel
theorem dX6_mayMerge_28 : decode cX6_mayMerge 28 = .ok (.if_icmp .ne 7, 3) := by decide +kernel
theorem dX6_mayMerge_31 : decode cX6_mayMerge 31 = .ok (.iconst 1, 1) := by decide +kernel
theorem dX6_mayMerge_32 : decode cX6_mayMerge 32 = .ok (.goto 4, 3) := by decide +kernel
theorem dX6_mayMerge_35 : decode cX6_mayMerge 35 = .ok (.iconst 0, 1) := by decide +kernel
theorem dX6_mayMerge_36 : decode cX6_mayMerge 36 = .ok (.istore_n 3, 1) := by decide +kernel
theorem dX6_mayMerge_37 : decode cX6_mayMerge 37 = .ok (.aload_n 0, 1) := by decide +kernel
theorem dX6_mayMerge_38 : decode cX6_mayMerge 38 = .ok (.iload_n 2, 1) := by decide +kernel
theorem dX6_mayMerge_39 : decode cX6_mayMerge 39 = .ok (.iconst 2, 1) := by decide +kernel
theorem dX6_mayMerge_40 : decode cX6_mayMerge 40 = .ok (.invokevirtual 41, 3) := by decide +kernel
theorem dX6_mayMerge_43 : decode cX6_mayMerge 43 = .ok (.aload_n 0, 1) := by decide +kernel
theorem dX6_mayMerge_44 : decode cX6_mayMerge 44 = .ok (.iload_n 1, 1) := by decide +kernel
theorem dX6_mayMerge_45 : decode cX6_mayMerge 45 = .ok (.iconst 2, 1) := by decide +kernel
theorem dX6_mayMerge_46 : decode cX6_mayMerge 46 = .ok (.invokevirtual 41, 3) := by decide +kernel
theorem dX6_mayMerge_49 : decode cX6_mayMerge 49 = .ok (.iconst (-1), 1) := by decide +kernel
theorem dX6_mayMerge_50 : decode cX6_mayMerge 50 = .ok (.ixor, 1) := by decide +kernel
theorem dX6_mayMerge_51 : decode cX6_mayMerge 51 = .ok (.iand, 1) := by decide +kernel
theorem dX6_mayMerge_52 : decode cX6_mayMerge 52 = .ok (.ifCond .ne 7, 3) := by decide +kernel
theorem dX6_mayMerge_55 : decode cX6_mayMerge 55 = .ok (.iconst 1, 1) := by decide +kernel
theorem dX6_mayMerge_56 : decode cX6_mayMerge 56 = .ok (.goto 4, 3) := by decide +kernel
theorem dX6_mayMerge_59 : decode cX6_mayMerge 59 = .ok (.iconst 0, 1) := by decide +kernel
theorem dX6_mayMerge_60 : decode cX6_mayMerge 60 = .ok (.istore 4, 2) := by decide +kernel
theorem dX6_mayMerge_62 : decode cX6_mayMerge 62 = .ok (.iload_n 3, 1) := by decide +kernel
theorem dX6_mayMerge_63 : decode cX6_mayMerge 63 = .ok (.ifCond .eq 52, 3) := by decide +kernel
theorem dX6_mayMerge_66 : decode cX6_mayMerge 66 = .ok (.iload 4, 2) := by decide +kernel
theorem dX6_mayMerge_68 : decode cX6_mayMerge 68 = .ok (.ifCond .eq 47, 3) := by decide +kernel
theorem dX6_mayMerge_71 : decode cX6_mayMerge 71 = .ok (.aload_n 0, 1) := by decide +kernel
theorem dX6_mayMerge_72 : decode cX6_mayMerge 72 = .ok (.getfield 19, 3) := by decide +kernel
theorem dX6_mayMerge_75 : decode cX6_mayMerge 75 = .ok (.bipush 7, 2) := by decide +kernel
theorem dX6_mayMerge_77 : decode cX6_mayMerge 77 = .ok (.iload_n 2, 1) := by decide +kernel
theorem dX6_mayMerge_78 : decode cX6_mayMerge 78 = .ok (.iadd, 1) := by decide +kernel
theorem dX6_mayMerge_79 : decode cX6_mayMerge 79 = .ok (.daload, 1) := by decide +kernel
theorem dX6_mayMerge_80 : decode cX6_mayMerge 80 = .ok (.aload_n 0, 1) := by decide +kernel
theorem dX6_mayMerge_81 : decode cX6_mayMerge 81 = .ok (.getfield 19, 3) := by decide +kernel
theorem dX6_mayMerge_84 : decode cX6_mayMerge 84 = .ok (.bipush 7, 2) := by decide +kernel
theorem dX6_mayMerge_86 : decode cX6_mayMerge 86 = .ok (.iload_n 1, 1) := by decide +kernel
theorem dX6_mayMerge_87 : decode cX6_mayMerge 87 = .ok (.iadd, 1) := by decide +kernel
theorem dX6_mayMerge_88 : decode cX6_mayMerge 88 = .ok (.daload, 1) := by decide +kernel
theorem dX6_mayMerge_89 : decode cX6_mayMerge 89 = .ok (.dcmp .g, 1) := by decide +kernel
theorem dX6_mayMerge_90 : decode cX6_mayMerge 90 = .ok (.ifCond .gt 25, 3) := by decide +kernel
theorem dX6_mayMerge_93 : decode cX6_mayMerge 93 = .ok (.aload_n 0, 1) := by decide +kernel
theorem dX6_mayMerge_94 : decode cX6_mayMerge 94 = .ok (.iload_n 1, 1) := by decide +kernel
theorem dX6_mayMerge_95 : decode cX6_mayMerge 95 = .ok (.iconst 3, 1) := by decide +kernel
theorem dX6_mayMerge_96 : decode cX6_mayMerge 96 = .ok (.invokevirtual 41, 3) := by decide +kernel
theorem dX6_mayMerge_99 : decode cX6_mayMerge 99 = .ok (.aload_n 0, 1) := by decide +kernel
theorem dX6_mayMerge_100 : decode cX6_mayMerge 100 = .ok (.iload_n 2, 1) := by decide +kernel
theorem dX6_mayMerge_101 : decode cX6_mayMerge 101 = .ok (.iconst 3, 1) := by decide +kernel
theorem dX6_mayMerge_102 : decode cX6_mayMerge 102 = .ok (.invokevirtual 41, 3) := by decide +kernel
theorem dX6_mayMerge_105 : decode cX6_mayMerge 105 = .ok (.iadd, 1) := by decide +kernel
theorem dX6_mayMerge_106 : decode cX6_mayMerge 106 = .ok (.bipush 12, 2) := by decide +kernel
theorem dX6_mayMerge_108 : decode cX6_mayMerge 108 = .ok (.if_icmp .gt 7, 3) := by decide +kernel
theorem dX6_mayMerge_111 : decode cX6_mayMerge 111 = .ok (.iconst 1, 1) := by decide +kernel
theorem dX6_mayMerge_112 : decode cX6_mayMerge 112 = .ok (.goto 4, 3) := by decide +kernel
theorem dX6_mayMerge_115 : decode cX6_mayMerge 115 = .ok (.iconst 0, 1) := by decide +kernel
theorem dX6_mayMerge_116 : decode cX6_mayMerge 116 = .ok (.ireturn, 1) := by decide +kernel
theorem dX6_merge_0 : decode cX6_merge 0 = .ok (.aload_n 0, 1) := by decide +kernel
theorem dX6_merge_1 : decode cX6_merge 1 = .ok (.iload_n 1, 1) := by decide +kernel
theorem dX6_merge_2 : decode cX6_merge 2 = .ok (.invokevirtual 114, 3) := by decide +kernel
theorem dX6_merge_5 : decode cX6_merge 5 = .ok (.ifCond .ne 11, 3) := by decide +kernel
theorem dX6_merge_8 : decode cX6_merge 8 = .ok (.aload_n 0, 1) := by decide +kernel
theorem dX6_merge_9 : decode cX6_merge 9 = .ok (.iload_n 2, 1) := by decide +kernel
theorem dX6_merge_10 : decode cX6_merge 10 = .ok (.invokevirtual 114, 3) := by decide +kernel
theorem dX6_merge_13 : decode cX6_merge 13 = .ok (.ifCond .eq 5, 3) := by decide +kernel
theorem dX6_merge_16 : decode cX6_merge 16 = .ok (.iconst (-1), 1) := by decide +kernel
theorem dX6_merge_17 : decode cX6_merge 17 = .ok (.ireturn, 1) := by decide +kernel
theorem dX6_merge_18 : decode cX6_merge 18 = .ok (.iload_n 1, 1) := by decide +kernel
theorem dX6_merge_19 : decode cX6_merge 19 = .ok (.iload_n 2, 1) := by decide +kernel
theorem dX6_merge_20 : decode cX6_merge 20 = .ok (.if_icmp .ne 6, 3) := by decide +kernel
theorem dX6_merge_23 : decode cX6_merge 23 = .ok (.bipush (-2), 2) := by decide +kernel
theorem dX6_merge_25 : decode cX6_merge 25 = .ok (.ireturn, 1) := by decide +kernel
theorem dX6_merge_26 : decode cX6_merge 26 = .ok (.aload_n 0, 1) := by decide +kernel
theorem dX6_merge_27 : decode cX6_merge 27 = .ok (.iload_n 1, 1) := by decide +kernel
theorem dX6_merge_28 : decode cX6_merge 28 = .ok (.iload_n 2, 1) := by decide +kernel
theorem dX6_merge_29 : decode cX6_merge 29 = .ok (.invokevirtual 137, 3) := by decide +kernel
theorem dX6_merge_32 : decode cX6_merge 32 = .ok (.ifCond .ne 6, 3) := by decide +kernel
theorem dX6_merge_35 : decode cX6_merge 35 = .ok (.bipush (-4), 2) := by decide +kernel
theorem dX6_merge_37 : decode cX6_merge 37 = .ok (.ireturn, 1) := by decide +kernel
theorem dX6_merge_38 : decode cX6_merge 38 = .ok (.aload_n 0, 1) := by decide +kernel
theorem dX6_merge_39 : decode cX6_merge 39 = .ok (.invokevirtual 49, 3) := by decide +kernel
theorem dX6_merge_42 : decode cX6_merge 42 = .ok (.aload_n 0, 1) := by decide +kernel
theorem dX6_merge_43 : decode cX6_merge 43 = .ok (.iload_n 1, 1) := by decide +kernel
theorem dX6_merge_44 : decode cX6_merge 44 = .ok (.iconst 5, 1) := by decide +kernel
theorem dX6_merge_45 : decode cX6_merge 45 = .ok (.invokevirtual 41, 3) := by decide +kernel
theorem dX6_merge_48 : decode cX6_merge 48 = .ok (.aload_n 0, 1) := by decide +kernel
theorem dX6_merge_49 : decode cX6_merge 49 = .ok (.iload_n 1, 1) := by decide +kernel
theorem dX6_merge_50 : decode cX6_merge 50 = .ok (.iconst 3, 1) := by decide +kernel
theorem dX6_merge_51 : decode cX6_merge 51 = .ok (.invokevirtual 41, 3) := by decide +kernel
theorem dX6_merge_54 : decode cX6_merge 54 = .ok (.aload_n 0, 1) := by decide +kernel
theorem dX6_merge_55 : decode cX6_merge 55 = .ok (.iload_n 2, 1) := by decide +kernel
theorem dX6_merge_56 : decode cX6_merge 56 = .ok (.iconst 1, 1) := by decide +kernel
theorem dX6_merge_57 : decode cX6_merge 57 = .ok (.invokevirtual 41, 3) := by decide +kernel
theorem dX6_merge_60 : decode cX6_merge 60 = .ok (.imul, 1) := by decide +kernel
theorem dX6_merge_61 : decode cX6_merge 61 = .ok (.isub, 1) := by decide +kernel
theorem dX6_merge_62 : decode cX6_merge 62 = .ok (.istore_n 3, 1) := by decide +kernel
theorem dX6_merge_63 : decode cX6_merge 63 = .ok (.iload_n 3, 1) := by decide +kernel
theorem dX6_merge_64 : decode cX6_merge 64 = .ok (.ifCond .le 7, 3) := by decide +kernel
theorem dX6_merge_67 : decode cX6_merge 67 = .ok (.iload_n 3, 1) := by decide +kernel
theorem dX6_merge_68 : decode cX6_merge 68 = .ok (.goto 4, 3) := by decide +kernel
theorem dX6_merge_71 : decode cX6_merge 71 = .ok (.iconst 0, 1) := by decide +kernel
theorem dX6_merge_72 : decode cX6_merge 72 = .ok (.istore 4, 2) := by decide +kernel
theorem dX6_merge_74 : decode cX6_merge 74 = .ok (.aload_n 0, 1) := by decide +kernel
theorem dX6_merge_75 : decode cX6_merge 75 = .ok (.iload_n 1, 1) := by decide +kernel
theorem dX6_merge_76 : decode cX6_merge 76 = .ok (.iload 4, 2) := by decide +kernel
theorem dX6_merge_78 : decode cX6_merge 78 = .ok (.invokevirtual 124, 3) := by decide +kernel
theorem dX6_merge_81 : decode cX6_merge 81 = .ok (.aload_n 0, 1) := by decide +kernel
theorem dX6_merge_82 : decode cX6_merge 82 = .ok (.iload_n 2, 1) := by decide +kernel
theorem dX6_merge_83 : decode cX6_merge 83 = .ok (.iconst 3, 1) := by decide +kernel
theorem dX6_merge_84 : decode cX6_merge 84 = .ok (.aload_n 0, 1) := by decide +kernel
theorem dX6_merge_85 : decode cX6_merge 85 = .ok (.iload_n 2, 1) := by decide +kernel
theorem dX6_merge_86 : decode cX6_merge 86 = .ok (.iconst 3, 1) := by decide +kernel
theorem dX6_merge_87 : decode cX6_merge 87 = .ok (.invokevirtual 41, 3) := by decide +kernel
theorem dX6_merge_90 : decode cX6_merge 90 = .ok (.aload_n 0, 1) := by decide +kernel
theorem dX6_merge_91 : decode cX6_merge 91 = .ok (.iload_n 1, 1) := by decide +kernel
theorem dX6_merge_92 : decode cX6_merge 92 = .ok (.iconst 3, 1) := by decide +kernel
theorem dX6_merge_93 : decode cX6_merge 93 = .ok (.invokevirtual 41, 3) := by decide +kernel
theorem dX6_merge_96 : decode cX6_merge 96 = .ok (.iadd, 1) := by decide +kernel
theorem dX6_merge_97 : decode cX6_merge 97 = .ok (.invokevirtual 110, 3) := by decide +kernel
theorem dX6_merge_100 : decode cX6_merge 100 = .ok (.aload_n 0, 1) := by decide +kernel
theorem dX6_merge_101 : decode cX6_merge 101 = .ok (.iload_n 2, 1) := by decide +kernel
theorem dX6_merge_102 : decode cX6_merge 102 = .ok (.iconst 5, 1) := by decide +kernel
theorem dX6_merge_103 : decode cX6_merge 103 = .ok (.aload_n 0, 1) := by decide +kernel
theorem dX6_merge_104 : decode cX6_merge 104 = .ok (.iload_n 2, 1) := by decide +kernel
theorem dX6_merge_105 : decode cX6_merge 105 = .ok (.iconst 5, 1) := by decide +kernel
theorem dX6_merge_106 : decode cX6_merge 106 = .ok (.invokevirtual 41, 3) := by decide +kernel
theorem dX6_merge_109 : decode cX6_merge 109 = .ok (.aload_n 0, 1) := by decide +kernel
theorem dX6_merge_110 : decode cX6_merge 110 = .ok (.iload_n 1, 1) := by decide +kernel
theorem dX6_merge_111 : decode cX6_merge 111 = .ok (.iconst 5, 1) := by decide +kernel
theorem dX6_merge_112 : decode cX6_merge 112 = .ok (.invokevirtual 41, 3) := by decide +kernel
theorem dX6_merge_115 : decode cX6_merge 115 = .ok (.iadd, 1) := by decide +kernel
theorem dX6_merge_116 : decode cX6_merge 116 = .ok (.invokevirtual 110, 3) := by decide +kernel
theorem dX6_merge_119 : decode cX6_merge 119 = .ok (.iconst 0, 1) := by decide +kernel
theorem dX6_merge_120 : decode cX6_merge 120 = .ok (.istore 5, 2) := by decide +kernel
theorem dX6_merge_122 : decode cX6_merge 122 = .ok (.iload 5, 2) := by decide +kernel
theorem dX6_merge_124 : decode cX6_merge 124 = .ok (.aload_n 0, 1) := by decide +kernel
theorem dX6_merge_125 : decode cX6_merge 125 = .ok (.iload_n 1, 1) := by decide +kernel
theorem dX6_merge_126 : decode cX6_merge 126 = .ok (.iconst 4, 1) := by decide +kernel
theorem dX6_merge_127 : decode cX6_merge 127 = .ok (.invokevirtual 41, 3) := by decide +kernel
theorem dX6_merge_130 : decode cX6_merge 130 = .ok (.if_icmp .ge 54, 3) := by decide +kernel
theorem dX6_merge_133 : decode cX6_merge 133 = .ok (.aload_n 0, 1) := by decide +kernel
theorem dX6_merge_134 : decode cX6_merge 134 = .ok (.iload_n 2, 1) := by decide +kernel
theorem dX6_merge_135 : decode cX6_merge 135 = .ok (.iconst 4, 1) := by decide +kernel
theorem dX6_merge_136 : decode cX6_merge 136 = .ok (.invokevirtual 41, 3) := by decide +kernel
theorem dX6_merge_139 : decode cX6_merge 139 = .ok (.iconst 4, 1) := by decide +kernel
theorem dX6_merge_140 : decode cX6_merge 140 = .ok (.if_icmp .ge 44, 3) := by decide +kernel
theorem dX6_merge_143 : decode cX6_merge 143 = .ok (.aload_n 0, 1) := by decide +kernel
theorem dX6_merge_144 : decode cX6_merge 144 = .ok (.iload_n 2, 1) := by decide +kernel
theorem dX6_merge_145 : decode cX6_merge 145 = .ok (.bipush 8, 2) := by decide +kernel
theorem dX6_merge_147 : decode cX6_merge 147 = .ok (.aload_n 0, 1) := by decide +kernel
theorem dX6_merge_148 : decode cX6_merge 148 = .ok (.iload_n 2, 1) := by decide +kernel
theorem dX6_merge_149 : decode cX6_merge 149 = .ok (.iconst 4, 1) := by decide +kernel
theorem dX6_merge_150 : decode cX6_merge 150 = .ok (.invokevirtual 41, 3) := by decide +kernel
theorem dX6_merge_153 : decode cX6_merge 153 = .ok (.iadd, 1) := by decide +kernel
theorem dX6_merge_154 : decode cX6_merge 154 = .ok (.aload_n 0, 1) := by decide +kernel
theorem dX6_merge_155 : decode cX6_merge 155 = .ok (.iload_n 1, 1) := by decide +kernel
theorem dX6_merge_156 : decode cX6_merge 156 = .ok (.iload 5, 2) := by decide +kernel
theorem dX6_merge_158 : decode cX6_merge 158 = .ok (.invokevirtual 87, 3) := by decide +kernel
theorem dX6_merge_161 : decode cX6_merge 161 = .ok (.invokevirtual 110, 3) := by decide +kernel
theorem dX6_merge_164 : decode cX6_merge 164 = .ok (.aload_n 0, 1) := by decide +kernel
theorem dX6_merge_165 : decode cX6_merge 165 = .ok (.iload_n 2, 1) := by decide +kernel
theorem dX6_merge_166 : decode cX6_merge 166 = .ok (.iconst 4, 1) := by decide +kernel
theorem dX6_merge_167 : decode cX6_merge 167 = .ok (.aload_n 0, 1) := by decide +kernel
theorem dX6_merge_168 : decode cX6_merge 168 = .ok (.iload_n 2, 1) := by decide +kernel
theorem dX6_merge_169 : decode cX6_merge 169 = .ok (.iconst 4, 1) := by decide +kernel
theorem dX6_merge_170 : decode cX6_merge 170 = .ok (.invokevirtual 41, 3) := by decide +kernel
theorem dX6_merge_173 : decode cX6_merge 173 = .ok (.iconst 1, 1) := by decide +kernel
theorem dX6_merge_174 : decode cX6_merge 174 = .ok (.iadd, 1) := by decide +kernel
theorem dX6_merge_175 : decode cX6_merge 175 = .ok (.invokevirtual 110, 3) := by decide +kernel
theorem dX6_merge_178 : decode cX6_merge 178 = .ok (.iinc 5 1, 3) := by decide +kernel
theorem dX6_merge_181 : decode cX6_merge 181 = .ok (.goto (-59), 3) := by decide +kernel
theorem dX6_merge_184 : decode cX6_merge 184 = .ok (.aload_n 0, 1) := by decide +kernel
theorem dX6_merge_185 : decode cX6_merge 185 = .ok (.iload_n 1, 1) := by decide +kernel
theorem dX6_merge_186 : decode cX6_merge 186 = .ok (.iconst 3, 1) := by decide +kernel
theorem dX6_merge_187 : decode cX6_merge 187 = .ok (.iconst 0, 1) := by decide +kernel
theorem dX6_merge_188 : decode cX6_merge 188 = .ok (.invokevirtual 110, 3) := by decide +kernel
theorem dX6_merge_191 : decode cX6_merge 191 = .ok (.aload_n 0, 1) := by decide +kernel
theorem dX6_merge_192 : decode cX6_merge 192 = .ok (.iload_n 1, 1) := by decide +kernel
theorem dX6_merge_193 : decode cX6_merge 193 = .ok (.iconst 5, 1) := by decide +kernel
theorem dX6_merge_194 : decode cX6_merge 194 = .ok (.iconst 0, 1) := by decide +kernel
theorem dX6_merge_195 : decode cX6_merge 195 = .ok (.invokevirtual 110, 3) := by decide +kernel
theorem dX6_merge_198 : decode cX6_merge 198 = .ok (.aload_n 0, 1) := by decide +kernel
theorem dX6_merge_199 : decode cX6_merge 199 = .ok (.iload_n 1, 1) := by decide +kernel
theorem dX6_merge_200 : decode cX6_merge 200 = .ok (.iconst 4, 1) := by decide +kernel
theorem dX6_merge_201 : decode cX6_merge 201 = .ok (.iconst 0, 1) := by decide +kernel
theorem dX6_merge_202 : decode cX6_merge 202 = .ok (.invokevirtual 110, 3) := by decide +kernel
theorem dX6_merge_205 : decode cX6_merge 205 = .ok (.aload_n 0, 1) := by decide +kernel
theorem dX6_merge_206 : decode cX6_merge 206 = .ok (.iload_n 1, 1) := by decide +kernel
theorem dX6_merge_207 : decode cX6_merge 207 = .ok (.bipush 6, 2) := by decide +kernel
theorem dX6_merge_209 : decode cX6_merge 209 = .ok (.iconst 3, 1) := by decide +kernel
theorem dX6_merge_210 : decode cX6_merge 210 = .ok (.invokevirtual 110, 3) := by decide +kernel
theorem dX6_merge_213 : decode cX6_merge 213 = .ok (.iload 4, 2) := by decide +kernel
theorem dX6_merge_215 : decode cX6_merge 215 = .ok (.ireturn, 1) := by decide +kernel
theorem dX6_cancels_0 : decode cX6_cancels 0 = .ok (.aload_n 0, 1) := by decide +kernel
theorem dX6_cancels_1 : decode cX6_cancels 1 = .ok (.iload_n 1, 1) := by decide +kernel
theorem dX6_cancels_2 : decode cX6_cancels 2 = .ok (.iconst 5, 1) := by decide +kernel
theorem dX6_cancels_3 : decode cX6_cancels 3 = .ok (.invokevirtual 41, 3) := by decide +kernel
theorem dX6_cancels_6 : decode cX6_cancels 6 = .ok (.istore_n 3, 1) := by decide +kernel
theorem dX6_cancels_7 : decode cX6_cancels 7 = .ok (.aload_n 0, 1) := by decide +kernel
theorem dX6_cancels_8 : decode cX6_cancels 8 = .ok (.iload_n 1, 1) := by decide +kernel
theorem dX6_cancels_9 : decode cX6_cancels 9 = .ok (.iload_n 3, 1) := by decide +kernel
theorem dX6_cancels_10 : decode cX6_cancels 10 = .ok (.invokevirtual 124, 3) := by decide +kernel
theorem dX6_cancels_13 : decode cX6_cancels 13 = .ok (.aload_n 0, 1) := by decide +kernel
theorem dX6_cancels_14 : decode cX6_cancels 14 = .ok (.iload_n 1, 1) := by decide +kernel
theorem dX6_cancels_15 : decode cX6_cancels 15 = .ok (.bipush 6, 2) := by decide +kernel
theorem dX6_cancels_17 : decode cX6_cancels 17 = .ok (.iconst 2, 1) := by decide +kernel
theorem dX6_cancels_18 : decode cX6_cancels 18 = .ok (.invokevirtual 110, 3) := by decide +kernel
theorem dX6_cancels_21 : decode cX6_cancels 21 = .ok (.aload_n 0, 1) := by decide +kernel
theorem dX6_cancels_22 : decode cX6_cancels 22 = .ok (.iload_n 1, 1) := by decide +kernel
theorem dX6_cancels_23 : decode cX6_cancels 23 = .ok (.bipush 7, 2) := by decide +kernel
theorem dX6_cancels_25 : decode cX6_cancels 25 = .ok (.iload_n 2, 1) := by decide +kernel
theorem dX6_cancels_26 : decode cX6_cancels 26 = .ok (.invokevirtual 110, 3) := by decide +kernel
theorem dX6_cancels_29 : decode cX6_cancels 29 = .ok (.iload_n 3, 1) := by decide +kernel
theorem dX6_cancels_30 : decode cX6_cancels 30 = .ok (.ireturn, 1) := by decide +kernel
theorem dX6_cancel_0 : decode cX6_cancel 0 = .ok (.aload_n 0, 1) := by decide +kernel
theorem dX6_cancel_1 : decode cX6_cancel 1 = .ok (.iload_n 1, 1) := by decide +kernel
theorem dX6_cancel_2 : decode cX6_cancel 2 = .ok (.invokevirtual 114, 3) := by decide +kernel
theorem dX6_cancel_5 : decode cX6_cancel 5 = .ok (.ifCond .eq 5, 3) := by decide +kernel
theorem dX6_cancel_8 : decode cX6_cancel 8 = .ok (.iconst (-1), 1) := by decide +kernel
theorem dX6_cancel_9 : decode cX6_cancel 9 = .ok (.ireturn, 1) := by decide +kernel
theorem dX6_cancel_10 : decode cX6_cancel 10 = .ok (.aload_n 0, 1) := by decide +kernel
theorem dX6_cancel_11 : decode cX6_cancel 11 = .ok (.iload_n 1, 1) := by decide +kernel
theorem dX6_cancel_12 : decode cX6_cancel 12 = .ok (.invokevirtual 117, 3) := by decide +kernel
theorem dX6_cancel_15 : decode cX6_cancel 15 = .ok (.ifCond .ne 6, 3) := by decide +kernel
theorem dX6_cancel_18 : decode cX6_cancel 18 = .ok (.bipush (-4), 2) := by decide +kernel
theorem dX6_cancel_20 : decode cX6_cancel 20 = .ok (.ireturn, 1) := by decide +kernel
theorem dX6_cancel_21 : decode cX6_cancel 21 = .ok (.aload_n 0, 1) := by decide +kernel
theorem dX6_cancel_22 : decode cX6_cancel 22 = .ok (.invokevirtual 49, 3) := by decide +kernel
theorem dX6_cancel_25 : decode cX6_cancel 25 = .ok (.aload_n 0, 1) := by decide +kernel
theorem dX6_cancel_26 : decode cX6_cancel 26 = .ok (.iload_n 1, 1) := by decide +kernel
theorem dX6_cancel_27 : decode cX6_cancel 27 = .ok (.iconst 4, 1) := by decide +kernel
theorem dX6_cancel_28 : decode cX6_cancel 28 = .ok (.invokevirtual 140, 3) := by decide +kernel
theorem dX6_cancel_31 : decode cX6_cancel 31 = .ok (.ireturn, 1) := by decide +kernel
theorem dX6_goes_0 : decode cX6_goes 0 = .ok (.aload_n 0, 1) := by decide +kernel
theorem dX6_goes_1 : decode cX6_goes 1 = .ok (.iload_n 1, 1) := by decide +kernel
theorem dX6_goes_2 : decode cX6_goes 2 = .ok (.bipush 6, 2) := by decide +kernel
theorem dX6_goes_4 : decode cX6_goes 4 = .ok (.iconst 1, 1) := by decide +kernel
theorem dX6_goes_5 : decode cX6_goes 5 = .ok (.invokevirtual 110, 3) := by decide +kernel
theorem dX6_goes_8 : decode cX6_goes 8 = .ok (.iconst 0, 1) := by decide +kernel
theorem dX6_goes_9 : decode cX6_goes 9 = .ok (.istore_n 2, 1) := by decide +kernel
theorem dX6_goes_10 : decode cX6_goes 10 = .ok (.iload_n 2, 1) := by decide +kernel
theorem dX6_goes_11 : decode cX6_goes 11 = .ok (.aload_n 0, 1) := by decide +kernel
theorem dX6_goes_12 : decode cX6_goes 12 = .ok (.iload_n 1, 1) := by decide +kernel
theorem dX6_goes_13 : decode cX6_goes 13 = .ok (.iconst 4, 1) := by decide +kernel
theorem dX6_goes_14 : decode cX6_goes 14 = .ok (.invokevirtual 41, 3) := by decide +kernel
theorem dX6_goes_17 : decode cX6_goes 17 = .ok (.if_icmp .ge 50, 3) := by decide +kernel
theorem dX6_goes_20 : decode cX6_goes 20 = .ok (.bipush 8, 2) := by decide +kernel
theorem dX6_goes_22 : decode cX6_goes 22 = .ok (.iconst 4, 1) := by decide +kernel
theorem dX6_goes_23 : decode cX6_goes 23 = .ok (.aload_n 0, 1) := by decide +kernel
theorem dX6_goes_24 : decode cX6_goes 24 = .ok (.iload_n 1, 1) := by decide +kernel
theorem dX6_goes_25 : decode cX6_goes 25 = .ok (.iload_n 2, 1) := by decide +kernel
theorem dX6_goes_26 : decode cX6_goes 26 = .ok (.invokevirtual 87, 3) := by decide +kernel
theorem dX6_goes_29 : decode cX6_goes 29 = .ok (.imul, 1) := by decide +kernel
theorem dX6_goes_30 : decode cX6_goes 30 = .ok (.iadd, 1) := by decide +kernel
theorem dX6_goes_31 : decode cX6_goes 31 = .ok (.istore_n 3, 1) := by decide +kernel
theorem dX6_goes_32 : decode cX6_goes 32 = .ok (.aload_n 0, 1) := by decide +kernel
theorem dX6_goes_33 : decode cX6_goes 33 = .ok (.getfield 7, 3) := by decide +kernel
theorem dX6_goes_36 : decode cX6_goes 36 = .ok (.iload_n 3, 1) := by decide +kernel
theorem dX6_goes_37 : decode cX6_goes 37 = .ok (.iconst 2, 1) := by decide +kernel
theorem dX6_goes_38 : decode cX6_goes 38 = .ok (.iadd, 1) := by decide +kernel
theorem dX6_goes_39 : decode cX6_goes 39 = .ok (.dup2, 1) := by decide +kernel
theorem dX6_goes_40 : decode cX6_goes 40 = .ok (.iaload, 1) := by decide +kernel
theorem dX6_goes_41 : decode cX6_goes 41 = .ok (.iconst 1, 1) := by decide +kernel
theorem dX6_goes_42 : decode cX6_goes 42 = .ok (.iadd, 1) := by decide +kernel
theorem dX6_goes_43 : decode cX6_goes 43 = .ok (.iastore, 1) := by decide +kernel
theorem dX6_goes_44 : decode cX6_goes 44 = .ok (.aload_n 0, 1) := by decide +kernel
theorem dX6_goes_45 : decode cX6_goes 45 = .ok (.getfield 7, 3) := by decide +kernel
theorem dX6_goes_48 : decode cX6_goes 48 = .ok (.iload_n 3, 1) := by decide +kernel
theorem dX6_goes_49 : decode cX6_goes 49 = .ok (.iconst 3, 1) := by decide +kernel
theorem dX6_goes_50 : decode cX6_goes 50 = .ok (.iadd, 1) := by decide +kernel
theorem dX6_goes_51 : decode cX6_goes 51 = .ok (.dup2, 1) := by decide +kernel
theorem dX6_goes_52 : decode cX6_goes 52 = .ok (.iaload, 1) := by decide +kernel
theorem dX6_goes_53 : decode cX6_goes 53 = .ok (.aload_n 0, 1) := by decide +kernel
theorem dX6_goes_54 : decode cX6_goes 54 = .ok (.iload_n 1, 1) := by decide +kernel
theorem dX6_goes_55 : decode cX6_goes 55 = .ok (.iload_n 2, 1) := by decide +kernel
theorem dX6_goes_56 : decode cX6_goes 56 = .ok (.invokevirtual 93, 3) := by decide +kernel
theorem dX6_goes_59 : decode cX6_goes 59 = .ok (.iadd, 1) := by decide +kernel
theorem dX6_goes_60 : decode cX6_goes 60 = .ok (.iastore, 1) := by decide +kernel
theorem dX6_goes_61 : decode cX6_goes 61 = .ok (.iinc 2 1, 3) := by decide +kernel
theorem dX6_goes_64 : decode cX6_goes 64 = .ok (.goto (-54), 3) := by decide +kernel
theorem dX6_goes_67 : decode cX6_goes 67 = .ok (.return_, 1) := by decide +kernel
theorem dX6_changed_0 : decode cX6_changed 0 = .ok (.aload_n 0, 1) := by decide +kernel
theorem dX6_changed_1 : decode cX6_changed 1 = .ok (.getfield 19, 3) := by decide +kernel
theorem dX6_changed_4 : decode cX6_changed 4 = .ok (.iconst 0, 1) := by decide +kernel
theorem dX6_changed_5 : decode cX6_changed 5 = .ok (.daload, 1) := by decide +kernel
theorem dX6_changed_6 : decode cX6_changed 6 = .ok (.dstore_n 3, 1) := by decide +kernel
theorem dX6_changed_7 : decode cX6_changed 7 = .ok (.dload_n 3, 1) := by decide +kernel
theorem dX6_changed_8 : decode cX6_changed 8 = .ok (.dconst 0, 1) := by decide +kernel
theorem dX6_changed_9 : decode cX6_changed 9 = .ok (.dcmp .l, 1) := by decide +kernel
theorem dX6_changed_10 : decode cX6_changed 10 = .ok (.ifCond .le 26, 3) := by decide +kernel
theorem dX6_changed_13 : decode cX6_changed 13 = .ok (.dload_n 1, 1) := by decide +kernel
theorem dX6_changed_14 : decode cX6_changed 14 = .ok (.ldc2_w 143, 3) := by decide +kernel
theorem dX6_changed_17 : decode cX6_changed 17 = .ok (.dload_n 3, 1) := by decide +kernel
theorem dX6_changed_18 : decode cX6_changed 18 = .ok (.dmul, 1) := by decide +kernel
theorem dX6_changed_19 : decode cX6_changed 19 = .ok (.dsub, 1) := by decide +kernel
theorem dX6_changed_20 : decode cX6_changed 20 = .ok (.dstore 5, 2) := by decide +kernel
theorem dX6_changed_22 : decode cX6_changed 22 = .ok (.dload 5, 2) := by decide +kernel
theorem dX6_changed_24 : decode cX6_changed 24 = .ok (.dconst 0, 1) := by decide +kernel
theorem dX6_changed_25 : decode cX6_changed 25 = .ok (.dcmp .g, 1) := by decide +kernel
theorem dX6_changed_26 : decode cX6_changed 26 = .ok (.ifCond .ge 7, 3) := by decide +kernel
theorem dX6_changed_29 : decode cX6_changed 29 = .ok (.dconst 0, 1) := by decide +kernel
theorem dX6_changed_30 : decode cX6_changed 30 = .ok (.goto 5, 3) := by decide +kernel
theorem dX6_changed_33 : decode cX6_changed 33 = .ok (.dload 5, 2) := by decide +kernel
theorem dX6_changed_35 : decode cX6_changed 35 = .ok (.dreturn, 1) := by decide +kernel
theorem dX6_changed_36 : decode cX6_changed 36 = .ok (.dload_n 3, 1) := by decide +kernel
theorem dX6_changed_37 : decode cX6_changed 37 = .ok (.dconst 0, 1) := by decide +kernel
theorem dX6_changed_38 : decode cX6_changed 38 = .ok (.dcmp .g, 1) := by decide +kernel
theorem dX6_changed_39 : decode cX6_changed 39 = .ok (.ifCond .ge 30, 3) := by decide +kernel
theorem dX6_changed_42 : decode cX6_changed 42 = .ok (.dload_n 1, 1) := by decide +kernel
theorem dX6_changed_43 : decode cX6_changed 43 = .ok (.ldc2_w 145, 3) := by decide +kernel
theorem dX6_changed_46 : decode cX6_changed 46 = .ok (.dload_n 3, 1) := by decide +kernel
theorem dX6_changed_47 : decode cX6_changed 47 = .ok (.dmul, 1) := by decide +kernel
theorem dX6_changed_48 : decode cX6_changed 48 = .ok (.dsub, 1) := by decide +kernel
theorem dX6_changed_49 : decode cX6_changed 49 = .ok (.dstore 5, 2) := by decide +kernel
theorem dX6_changed_51 : decode cX6_changed 51 = .ok (.dload 5, 2) := by decide +kernel
theorem dX6_changed_53 : decode cX6_changed 53 = .ok (.ldc2_w 67, 3) := by decide +kernel
theorem dX6_changed_56 : decode cX6_changed 56 = .ok (.dcmp .l, 1) := by decide +kernel
theorem dX6_changed_57 : decode cX6_changed 57 = .ok (.ifCond .le 9, 3) := by decide +kernel
theorem dX6_changed_60 : decode cX6_changed 60 = .ok (.ldc2_w 67, 3) := by decide +kernel
theorem dX6_changed_63 : decode cX6_changed 63 = .ok (.goto 5, 3) := by decide +kernel
theorem dX6_changed_66 : decode cX6_changed 66 = .ok (.dload 5, 2) := by decide +kernel
theorem dX6_changed_68 : decode cX6_changed 68 = .ok (.dreturn, 1) := by decide +kernel
theorem dX6_changed_69 : decode cX6_changed 69 = .ok (.dload_n 1, 1) := by decide +kernel
theorem dX6_changed_70 : decode cX6_changed 70 = .ok (.dreturn, 1) := by decide +kernel
theorem dX6_passes_0 : decode cX6_passes 0 = .ok (.iconst 0, 1) := by decide +kernel
theorem dX6_passes_1 : decode cX6_passes 1 = .ok (.istore_n 1, 1) := by decide +kernel
theorem dX6_passes_2 : decode cX6_passes 2 = .ok (.iconst 0, 1) := by decide +kernel
theorem dX6_passes_3 : decode cX6_passes 3 = .ok (.istore_n 2, 1) := by decide +kernel
theorem dX6_passes_4 : decode cX6_passes 4 = .ok (.iload_n 2, 1) := by decide +kernel
theorem dX6_passes_5 : decode cX6_passes 5 = .ok (.aload_n 0, 1) := by decide +kernel
theorem dX6_passes_6 : decode cX6_passes 6 = .ok (.getfield 7, 3) := by decide +kernel
theorem dX6_passes_9 : decode cX6_passes 9 = .ok (.iconst 3, 1) := by decide +kernel
theorem dX6_passes_10 : decode cX6_passes 10 = .ok (.iaload, 1) := by decide +kernel
theorem dX6_passes_11 : decode cX6_passes 11 = .ok (.if_icmp .ge 64, 3) := by decide +kernel
theorem dX6_passes_14 : decode cX6_passes 14 = .ok (.aload_n 0, 1) := by decide +kernel
theorem dX6_passes_15 : decode cX6_passes 15 = .ok (.iload_n 2, 1) := by decide +kernel
theorem dX6_passes_16 : decode cX6_passes 16 = .ok (.invokevirtual 117, 3) := by decide +kernel
theorem dX6_passes_19 : decode cX6_passes 19 = .ok (.ifCond .eq 50, 3) := by decide +kernel
theorem dX6_passes_22 : decode cX6_passes 22 = .ok (.aload_n 0, 1) := by decide +kernel
theorem dX6_passes_23 : decode cX6_passes 23 = .ok (.iload_n 2, 1) := by decide +kernel
theorem dX6_passes_24 : decode cX6_passes 24 = .ok (.iconst 0, 1) := by decide +kernel
theorem dX6_passes_25 : decode cX6_passes 25 = .ok (.invokevirtual 41, 3) := by decide +kernel
theorem dX6_passes_28 : decode cX6_passes 28 = .ok (.aload_n 0, 1) := by decide +kernel
theorem dX6_passes_29 : decode cX6_passes 29 = .ok (.getfield 7, 3) := by decide +kernel
theorem dX6_passes_32 : decode cX6_passes 32 = .ok (.iconst 0, 1) := by decide +kernel
theorem dX6_passes_33 : decode cX6_passes 33 = .ok (.iaload, 1) := by decide +kernel
theorem dX6_passes_34 : decode cX6_passes 34 = .ok (.if_icmp .eq 6, 3) := by decide +kernel
theorem dX6_passes_37 : decode cX6_passes 37 = .ok (.goto 32, 3) := by decide +kernel
theorem dX6_passes_40 : decode cX6_passes 40 = .ok (.aload_n 0, 1) := by decide +kernel
theorem dX6_passes_41 : decode cX6_passes 41 = .ok (.iload_n 2, 1) := by decide +kernel
theorem dX6_passes_42 : decode cX6_passes 42 = .ok (.invokevirtual 147, 3) := by decide +kernel
theorem dX6_passes_45 : decode cX6_passes 45 = .ok (.istore_n 3, 1) := by decide +kernel
theorem dX6_passes_46 : decode cX6_passes 46 = .ok (.iload_n 3, 1) := by decide +kernel
theorem dX6_passes_47 : decode cX6_passes 47 = .ok (.ifCond .le 14, 3) := by decide +kernel
theorem dX6_passes_50 : decode cX6_passes 50 = .ok (.aload_n 0, 1) := by decide +kernel
theorem dX6_passes_51 : decode cX6_passes 51 = .ok (.iload_n 2, 1) := by decide +kernel
theorem dX6_passes_52 : decode cX6_passes 52 = .ok (.iload_n 3, 1) := by decide +kernel
theorem dX6_passes_53 : decode cX6_passes 53 = .ok (.invokevirtual 140, 3) := by decide +kernel
theorem dX6_passes_56 : decode cX6_passes 56 = .ok (.istore 4, 2) := by decide +kernel
theorem dX6_passes_58 : decode cX6_passes 58 = .ok (.goto 11, 3) := by decide +kernel
theorem dX6_passes_61 : decode cX6_passes 61 = .ok (.aload_n 0, 1) := by decide +kernel
theorem dX6_passes_62 : decode cX6_passes 62 = .ok (.iload_n 2, 1) := by decide +kernel
theorem dX6_passes_63 : decode cX6_passes 63 = .ok (.invokevirtual 150, 3) := by decide +kernel
theorem dX6_passes_66 : decode cX6_passes 66 = .ok (.iinc 1 1, 3) := by decide +kernel
theorem dX6_passes_69 : decode cX6_passes 69 = .ok (.iinc 2 1, 3) := by decide +kernel
theorem dX6_passes_72 : decode cX6_passes 72 = .ok (.goto (-68), 3) := by decide +kernel
theorem dX6_passes_75 : decode cX6_passes 75 = .ok (.iconst 0, 1) := by decide +kernel
theorem dX6_passes_76 : decode cX6_passes 76 = .ok (.istore_n 2, 1) := by decide +kernel
theorem dX6_passes_77 : decode cX6_passes 77 = .ok (.iload_n 2, 1) := by decide +kernel
theorem dX6_passes_78 : decode cX6_passes 78 = .ok (.aload_n 0, 1) := by decide +kernel
theorem dX6_passes_79 : decode cX6_passes 79 = .ok (.getfield 7, 3) := by decide +kernel
theorem dX6_passes_82 : decode cX6_passes 82 = .ok (.iconst 2, 1) := by decide +kernel
theorem dX6_passes_83 : decode cX6_passes 83 = .ok (.iaload, 1) := by decide +kernel
theorem dX6_passes_84 : decode cX6_passes 84 = .ok (.if_icmp .ge 29, 3) := by decide +kernel
theorem dX6_passes_87 : decode cX6_passes 87 = .ok (.aload_n 0, 1) := by decide +kernel
theorem dX6_passes_88 : decode cX6_passes 88 = .ok (.getfield 19, 3) := by decide +kernel
theorem dX6_passes_91 : decode cX6_passes 91 = .ok (.iconst 1, 1) := by decide +kernel
theorem dX6_passes_92 : decode cX6_passes 92 = .ok (.iload_n 2, 1) := by decide +kernel
theorem dX6_passes_93 : decode cX6_passes 93 = .ok (.iadd, 1) := by decide +kernel
theorem dX6_passes_94 : decode cX6_passes 94 = .ok (.aload_n 0, 1) := by decide +kernel
theorem dX6_passes_95 : decode cX6_passes 95 = .ok (.aload_n 0, 1) := by decide +kernel
theorem dX6_passes_96 : decode cX6_passes 96 = .ok (.getfield 19, 3) := by decide +kernel
theorem dX6_passes_99 : decode cX6_passes 99 = .ok (.iconst 1, 1) := by decide +kernel
theorem dX6_passes_100 : decode cX6_passes 100 = .ok (.iload_n 2, 1) := by decide +kernel
theorem dX6_passes_101 : decode cX6_passes 101 = .ok (.iadd, 1) := by decide +kernel
theorem dX6_passes_102 : decode cX6_passes 102 = .ok (.daload, 1) := by decide +kernel
theorem dX6_passes_103 : decode cX6_passes 103 = .ok (.invokevirtual 154, 3) := by decide +kernel
theorem dX6_passes_106 : decode cX6_passes 106 = .ok (.dastore, 1) := by decide +kernel
theorem dX6_passes_107 : decode cX6_passes 107 = .ok (.iinc 2 1, 3) := by decide +kernel
theorem dX6_passes_110 : decode cX6_passes 110 = .ok (.goto (-33), 3) := by decide +kernel
theorem dX6_passes_113 : decode cX6_passes 113 = .ok (.aload_n 0, 1) := by decide +kernel
theorem dX6_passes_114 : decode cX6_passes 114 = .ok (.getfield 7, 3) := by decide +kernel
theorem dX6_passes_117 : decode cX6_passes 117 = .ok (.iconst 0, 1) := by decide +kernel
theorem dX6_passes_118 : decode cX6_passes 118 = .ok (.dup2, 1) := by decide +kernel
theorem dX6_passes_119 : decode cX6_passes 119 = .ok (.iaload, 1) := by decide +kernel
theorem dX6_passes_120 : decode cX6_passes 120 = .ok (.iconst 1, 1) := by decide +kernel
theorem dX6_passes_121 : decode cX6_passes 121 = .ok (.iadd, 1) := by decide +kernel
theorem dX6_passes_122 : decode cX6_passes 122 = .ok (.iastore, 1) := by decide +kernel
theorem dX6_passes_123 : decode cX6_passes 123 = .ok (.iload_n 1, 1) := by decide +kernel
theorem dX6_passes_124 : decode cX6_passes 124 = .ok (.ireturn, 1) := by decide +kernel
theorem dX6_pass_0 : decode cX6_pass 0 = .ok (.iload_n 1, 1) := by decide +kernel
theorem dX6_pass_1 : decode cX6_pass 1 = .ok (.iconst 1, 1) := by decide +kernel
theorem dX6_pass_2 : decode cX6_pass 2 = .ok (.bipush 30, 2) := by decide +kernel
theorem dX6_pass_4 : decode cX6_pass 4 = .ok (.invokestatic 37, 3) := by decide +kernel
theorem dX6_pass_7 : decode cX6_pass 7 = .ok (.ifCond .ne 6, 3) := by decide +kernel
theorem dX6_pass_10 : decode cX6_pass 10 = .ok (.bipush (-2), 2) := by decide +kernel
theorem dX6_pass_12 : decode cX6_pass 12 = .ok (.ireturn, 1) := by decide +kernel
theorem dX6_pass_13 : decode cX6_pass 13 = .ok (.aload_n 0, 1) := by decide +kernel
theorem dX6_pass_14 : decode cX6_pass 14 = .ok (.getfield 7, 3) := by decide +kernel
theorem dX6_pass_17 : decode cX6_pass 17 = .ok (.iconst 0, 1) := by decide +kernel
theorem dX6_pass_18 : decode cX6_pass 18 = .ok (.iaload, 1) := by decide +kernel
theorem dX6_pass_19 : decode cX6_pass 19 = .ok (.iload_n 1, 1) := by decide +kernel
theorem dX6_pass_20 : decode cX6_pass 20 = .ok (.iadd, 1) := by decide +kernel
theorem dX6_pass_21 : decode cX6_pass 21 = .ok (.sipush 1000, 3) := by decide +kernel
theorem dX6_pass_24 : decode cX6_pass 24 = .ok (.if_icmp .le 6, 3) := by decide +kernel
theorem dX6_pass_27 : decode cX6_pass 27 = .ok (.bipush (-4), 2) := by decide +kernel
theorem dX6_pass_29 : decode cX6_pass 29 = .ok (.ireturn, 1) := by decide +kernel
theorem dX6_pass_30 : decode cX6_pass 30 = .ok (.aload_n 0, 1) := by decide +kernel
theorem dX6_pass_31 : decode cX6_pass 31 = .ok (.invokevirtual 49, 3) := by decide +kernel
theorem dX6_pass_34 : decode cX6_pass 34 = .ok (.iconst 0, 1) := by decide +kernel
theorem dX6_pass_35 : decode cX6_pass 35 = .ok (.istore_n 2, 1) := by decide +kernel
theorem dX6_pass_36 : decode cX6_pass 36 = .ok (.iconst 0, 1) := by decide +kernel
theorem dX6_pass_37 : decode cX6_pass 37 = .ok (.istore_n 3, 1) := by decide +kernel
theorem dX6_pass_38 : decode cX6_pass 38 = .ok (.iload_n 3, 1) := by decide +kernel
theorem dX6_pass_39 : decode cX6_pass 39 = .ok (.iload_n 1, 1) := by decide +kernel
theorem dX6_pass_40 : decode cX6_pass 40 = .ok (.if_icmp .ge 16, 3) := by decide +kernel
theorem dX6_pass_43 : decode cX6_pass 43 = .ok (.iload_n 2, 1) := by decide +kernel
theorem dX6_pass_44 : decode cX6_pass 44 = .ok (.aload_n 0, 1) := by decide +kernel
theorem dX6_pass_45 : decode cX6_pass 45 = .ok (.invokevirtual 158, 3) := by decide +kernel
theorem dX6_pass_48 : decode cX6_pass 48 = .ok (.iadd, 1) := by decide +kernel
theorem dX6_pass_49 : decode cX6_pass 49 = .ok (.istore_n 2, 1) := by decide +kernel
theorem dX6_pass_50 : decode cX6_pass 50 = .ok (.iinc 3 1, 3) := by decide +kernel
theorem dX6_pass_53 : decode cX6_pass 53 = .ok (.goto (-15), 3) := by decide +kernel
theorem dX6_pass_56 : decode cX6_pass 56 = .ok (.iload_n 2, 1) := by decide +kernel
theorem dX6_pass_57 : decode cX6_pass 57 = .ok (.ireturn, 1) := by decide +kernel
theorem dX6_type_0 : decode cX6_type 0 = .ok (.aload_n 0, 1) := by decide +kernel
theorem dX6_type_1 : decode cX6_type 1 = .ok (.getfield 162, 3) := by decide +kernel
theorem dX6_type_4 : decode cX6_type 4 = .ok (.bipush 40, 2) := by decide +kernel
theorem dX6_type_6 : decode cX6_type 6 = .ok (.if_icmp .ne 6, 3) := by decide +kernel
theorem dX6_type_9 : decode cX6_type 9 = .ok (.bipush (-3), 2) := by decide +kernel
theorem dX6_type_11 : decode cX6_type 11 = .ok (.ireturn, 1) := by decide +kernel
theorem dX6_type_12 : decode cX6_type 12 = .ok (.aload_n 0, 1) := by decide +kernel
theorem dX6_type_13 : decode cX6_type 13 = .ok (.getfield 29, 3) := by decide +kernel
theorem dX6_type_16 : decode cX6_type 16 = .ok (.aload_n 0, 1) := by decide +kernel
theorem dX6_type_17 : decode cX6_type 17 = .ok (.getfield 162, 3) := by decide +kernel
theorem dX6_type_20 : decode cX6_type 20 = .ok (.iload_n 1, 1) := by decide +kernel
theorem dX6_type_21 : decode cX6_type 21 = .ok (.castore, 1) := by decide +kernel
theorem dX6_type_22 : decode cX6_type 22 = .ok (.aload_n 0, 1) := by decide +kernel
theorem dX6_type_23 : decode cX6_type 23 = .ok (.dup, 1) := by decide +kernel
theorem dX6_type_24 : decode cX6_type 24 = .ok (.getfield 162, 3) := by decide +kernel
theorem dX6_type_27 : decode cX6_type 27 = .ok (.iconst 1, 1) := by decide +kernel
theorem dX6_type_28 : decode cX6_type 28 = .ok (.iadd, 1) := by decide +kernel
theorem dX6_type_29 : decode cX6_type 29 = .ok (.putfield 162, 3) := by decide +kernel
theorem dX6_type_32 : decode cX6_type 32 = .ok (.aload_n 0, 1) := by decide +kernel
theorem dX6_type_33 : decode cX6_type 33 = .ok (.getfield 162, 3) := by decide +kernel
theorem dX6_type_36 : decode cX6_type 36 = .ok (.ireturn, 1) := by decide +kernel
theorem dX6_clearText_0 : decode cX6_clearText 0 = .ok (.aload_n 0, 1) := by decide +kernel
theorem dX6_clearText_1 : decode cX6_clearText 1 = .ok (.getfield 162, 3) := by decide +kernel
theorem dX6_clearText_4 : decode cX6_clearText 4 = .ok (.istore_n 1, 1) := by decide +kernel
theorem dX6_clearText_5 : decode cX6_clearText 5 = .ok (.aload_n 0, 1) := by decide +kernel
theorem dX6_clearText_6 : decode cX6_clearText 6 = .ok (.iconst 0, 1) := by decide +kernel
theorem dX6_clearText_7 : decode cX6_clearText 7 = .ok (.putfield 162, 3) := by decide +kernel
theorem dX6_clearText_10 : decode cX6_clearText 10 = .ok (.iload_n 1, 1) := by decide +kernel
theorem dX6_clearText_11 : decode cX6_clearText 11 = .ok (.ireturn, 1) := by decide +kernel
theorem dX6_isWord_0 : decode cX6_isWord 0 = .ok (.aload_n 0, 1) := by decide +kernel
theorem dX6_isWord_1 : decode cX6_isWord 1 = .ok (.getfield 165, 3) := by decide +kernel
theorem dX6_isWord_4 : decode cX6_isWord 4 = .ok (.iload_n 1, 1) := by decide +kernel
theorem dX6_isWord_5 : decode cX6_isWord 5 = .ok (.if_icmp .ne 49, 3) := by decide +kernel
theorem dX6_isWord_8 : decode cX6_isWord 8 = .ok (.aload_n 0, 1) := by decide +kernel
theorem dX6_isWord_9 : decode cX6_isWord 9 = .ok (.getfield 29, 3) := by decide +kernel
theorem dX6_isWord_12 : decode cX6_isWord 12 = .ok (.iconst 0, 1) := by decide +kernel
theorem dX6_isWord_13 : decode cX6_isWord 13 = .ok (.caload, 1) := by decide +kernel
theorem dX6_isWord_14 : decode cX6_isWord 14 = .ok (.iload_n 2, 1) := by decide +kernel
theorem dX6_isWord_15 : decode cX6_isWord 15 = .ok (.if_icmp .ne 39, 3) := by decide +kernel
theorem dX6_isWord_18 : decode cX6_isWord 18 = .ok (.aload_n 0, 1) := by decide +kernel
theorem dX6_isWord_19 : decode cX6_isWord 19 = .ok (.getfield 29, 3) := by decide +kernel
theorem dX6_isWord_22 : decode cX6_isWord 22 = .ok (.iconst 1, 1) := by decide +kernel
theorem dX6_isWord_23 : decode cX6_isWord 23 = .ok (.caload, 1) := by decide +kernel
theorem dX6_isWord_24 : decode cX6_isWord 24 = .ok (.iload_n 3, 1) := by decide +kernel
theorem dX6_isWord_25 : decode cX6_isWord 25 = .ok (.if_icmp .ne 29, 3) := by decide +kernel
theorem dX6_isWord_28 : decode cX6_isWord 28 = .ok (.aload_n 0, 1) := by decide +kernel
theorem dX6_isWord_29 : decode cX6_isWord 29 = .ok (.getfield 29, 3) := by decide +kernel
theorem dX6_isWord_32 : decode cX6_isWord 32 = .ok (.iconst 2, 1) := by decide +kernel
theorem dX6_isWord_33 : decode cX6_isWord 33 = .ok (.caload, 1) := by decide +kernel
theorem dX6_isWord_34 : decode cX6_isWord 34 = .ok (.iload 4, 2) := by decide +kernel
theorem dX6_isWord_36 : decode cX6_isWord 36 = .ok (.if_icmp .ne 18, 3) := by decide +kernel
theorem dX6_isWord_39 : decode cX6_isWord 39 = .ok (.aload_n 0, 1) := by decide +kernel
theorem dX6_isWord_40 : decode cX6_isWord 40 = .ok (.getfield 29, 3) := by decide +kernel
theorem dX6_isWord_43 : decode cX6_isWord 43 = .ok (.iconst 3, 1) := by decide +kernel
theorem dX6_isWord_44 : decode cX6_isWord 44 = .ok (.caload, 1) := by decide +kernel
theorem dX6_isWord_45 : decode cX6_isWord 45 = .ok (.iload 5, 2) := by decide +kernel
theorem dX6_isWord_47 : decode cX6_isWord 47 = .ok (.if_icmp .ne 7, 3) := by decide +kernel
theorem dX6_isWord_50 : decode cX6_isWord 50 = .ok (.iconst 1, 1) := by decide +kernel
theorem dX6_isWord_51 : decode cX6_isWord 51 = .ok (.goto 4, 3) := by decide +kernel
theorem dX6_isWord_54 : decode cX6_isWord 54 = .ok (.iconst 0, 1) := by decide +kernel
theorem dX6_isWord_55 : decode cX6_isWord 55 = .ok (.ireturn, 1) := by decide +kernel
theorem dX6_word_0 : decode cX6_word 0 = .ok (.aload_n 0, 1) := by decide +kernel
theorem dX6_word_1 : decode cX6_word 1 = .ok (.iconst 0, 1) := by decide +kernel
theorem dX6_word_2 : decode cX6_word 2 = .ok (.putfield 165, 3) := by decide +kernel
theorem dX6_word_5 : decode cX6_word 5 = .ok (.aload_n 0, 1) := by decide +kernel
theorem dX6_word_6 : decode cX6_word 6 = .ok (.getfield 165, 3) := by decide +kernel
theorem dX6_word_9 : decode cX6_word 9 = .ok (.aload_n 0, 1) := by decide +kernel
theorem dX6_word_10 : decode cX6_word 10 = .ok (.getfield 162, 3) := by decide +kernel
theorem dX6_word_13 : decode cX6_word 13 = .ok (.if_icmp .ge 35, 3) := by decide +kernel
theorem dX6_word_16 : decode cX6_word 16 = .ok (.aload_n 0, 1) := by decide +kernel
theorem dX6_word_17 : decode cX6_word 17 = .ok (.getfield 29, 3) := by decide +kernel
theorem dX6_word_20 : decode cX6_word 20 = .ok (.aload_n 0, 1) := by decide +kernel
theorem dX6_word_21 : decode cX6_word 21 = .ok (.getfield 165, 3) := by decide +kernel
theorem dX6_word_24 : decode cX6_word 24 = .ok (.caload, 1) := by decide +kernel
theorem dX6_word_25 : decode cX6_word 25 = .ok (.bipush 97, 2) := by decide +kernel
theorem dX6_word_27 : decode cX6_word 27 = .ok (.bipush 122, 2) := by decide +kernel
theorem dX6_word_29 : decode cX6_word 29 = .ok (.invokestatic 37, 3) := by decide +kernel
theorem dX6_word_32 : decode cX6_word 32 = .ok (.ifCond .eq 16, 3) := by decide +kernel
theorem dX6_word_35 : decode cX6_word 35 = .ok (.aload_n 0, 1) := by decide +kernel
theorem dX6_word_36 : decode cX6_word 36 = .ok (.dup, 1) := by decide +kernel
theorem dX6_word_37 : decode cX6_word 37 = .ok (.getfield 165, 3) := by decide +kernel
theorem dX6_word_40 : decode cX6_word 40 = .ok (.iconst 1, 1) := by decide +kernel
theorem dX6_word_41 : decode cX6_word 41 = .ok (.iadd, 1) := by decide +kernel
theorem dX6_word_42 : decode cX6_word 42 = .ok (.putfield 165, 3) := by decide +kernel
theorem dX6_word_45 : decode cX6_word 45 = .ok (.goto (-40), 3) := by decide +kernel
theorem dX6_word_48 : decode cX6_word 48 = .ok (.aload_n 0, 1) := by decide +kernel
theorem dX6_word_49 : decode cX6_word 49 = .ok (.iconst 4, 1) := by decide +kernel
theorem dX6_word_50 : decode cX6_word 50 = .ok (.bipush 98, 2) := by decide +kernel
theorem dX6_word_52 : decode cX6_word 52 = .ok (.bipush 111, 2) := by decide +kernel
theorem dX6_word_54 : decode cX6_word 54 = .ok (.bipush 111, 2) := by decide +kernel
theorem dX6_word_56 : decode cX6_word 56 = .ok (.bipush 107, 2) := by decide +kernel
theorem dX6_word_58 : decode cX6_word 58 = .ok (.invokevirtual 168, 3) := by decide +kernel
theorem dX6_word_61 : decode cX6_word 61 = .ok (.ifCond .eq 5, 3) := by decide +kernel
theorem dX6_word_64 : decode cX6_word 64 = .ok (.iconst 0, 1) := by decide +kernel
theorem dX6_word_65 : decode cX6_word 65 = .ok (.ireturn, 1) := by decide +kernel
theorem dX6_word_66 : decode cX6_word 66 = .ok (.aload_n 0, 1) := by decide +kernel
theorem dX6_word_67 : decode cX6_word 67 = .ok (.iconst 4, 1) := by decide +kernel
theorem dX6_word_68 : decode cX6_word 68 = .ok (.bipush 108, 2) := by decide +kernel
theorem dX6_word_70 : decode cX6_word 70 = .ok (.bipush 101, 2) := by decide +kernel
theorem dX6_word_72 : decode cX6_word 72 = .ok (.bipush 97, 2) := by decide +kernel
theorem dX6_word_74 : decode cX6_word 74 = .ok (.bipush 100, 2) := by decide +kernel
theorem dX6_word_76 : decode cX6_word 76 = .ok (.invokevirtual 168, 3) := by decide +kernel
theorem dX6_word_79 : decode cX6_word 79 = .ok (.ifCond .eq 5, 3) := by decide +kernel
theorem dX6_word_82 : decode cX6_word 82 = .ok (.iconst 4, 1) := by decide +kernel
theorem dX6_word_83 : decode cX6_word 83 = .ok (.ireturn, 1) := by decide +kernel
theorem dX6_word_84 : decode cX6_word 84 = .ok (.aload_n 0, 1) := by decide +kernel
theorem dX6_word_85 : decode cX6_word 85 = .ok (.iconst 5, 1) := by decide +kernel
theorem dX6_word_86 : decode cX6_word 86 = .ok (.bipush 108, 2) := by decide +kernel
theorem dX6_word_88 : decode cX6_word 88 = .ok (.bipush 101, 2) := by decide +kernel
theorem dX6_word_90 : decode cX6_word 90 = .ok (.bipush 97, 2) := by decide +kernel
theorem dX6_word_92 : decode cX6_word 92 = .ok (.bipush 118, 2) := by decide +kernel
theorem dX6_word_94 : decode cX6_word 94 = .ok (.invokevirtual 168, 3) := by decide +kernel
theorem dX6_word_97 : decode cX6_word 97 = .ok (.ifCond .eq 16, 3) := by decide +kernel
theorem dX6_word_100 : decode cX6_word 100 = .ok (.aload_n 0, 1) := by decide +kernel
theorem dX6_word_101 : decode cX6_word 101 = .ok (.getfield 29, 3) := by decide +kernel
theorem dX6_word_104 : decode cX6_word 104 = .ok (.iconst 4, 1) := by decide +kernel
theorem dX6_word_105 : decode cX6_word 105 = .ok (.caload, 1) := by decide +kernel
theorem dX6_word_106 : decode cX6_word 106 = .ok (.bipush 101, 2) := by decide +kernel
theorem dX6_word_108 : decode cX6_word 108 = .ok (.if_icmp .ne 5, 3) := by decide +kernel
theorem dX6_word_111 : decode cX6_word 111 = .ok (.iconst 1, 1) := by decide +kernel
theorem dX6_word_112 : decode cX6_word 112 = .ok (.ireturn, 1) := by decide +kernel
theorem dX6_word_113 : decode cX6_word 113 = .ok (.aload_n 0, 1) := by decide +kernel
theorem dX6_word_114 : decode cX6_word 114 = .ok (.iconst 5, 1) := by decide +kernel
theorem dX6_word_115 : decode cX6_word 115 = .ok (.bipush 109, 2) := by decide +kernel
theorem dX6_word_117 : decode cX6_word 117 = .ok (.bipush 101, 2) := by decide +kernel
theorem dX6_word_119 : decode cX6_word 119 = .ok (.bipush 114, 2) := by decide +kernel
theorem dX6_word_121 : decode cX6_word 121 = .ok (.bipush 103, 2) := by decide +kernel
theorem dX6_word_123 : decode cX6_word 123 = .ok (.invokevirtual 168, 3) := by decide +kernel
theorem dX6_word_126 : decode cX6_word 126 = .ok (.ifCond .eq 16, 3) := by decide +kernel
theorem dX6_word_129 : decode cX6_word 129 = .ok (.aload_n 0, 1) := by decide +kernel
theorem dX6_word_130 : decode cX6_word 130 = .ok (.getfield 29, 3) := by decide +kernel
theorem dX6_word_133 : decode cX6_word 133 = .ok (.iconst 4, 1) := by decide +kernel
theorem dX6_word_134 : decode cX6_word 134 = .ok (.caload, 1) := by decide +kernel
theorem dX6_word_135 : decode cX6_word 135 = .ok (.bipush 101, 2) := by decide +kernel
theorem dX6_word_137 : decode cX6_word 137 = .ok (.if_icmp .ne 5, 3) := by decide +kernel
theorem dX6_word_140 : decode cX6_word 140 = .ok (.iconst 2, 1) := by decide +kernel
theorem dX6_word_141 : decode cX6_word 141 = .ok (.ireturn, 1) := by decide +kernel
theorem dX6_word_142 : decode cX6_word 142 = .ok (.aload_n 0, 1) := by decide +kernel
theorem dX6_word_143 : decode cX6_word 143 = .ok (.bipush 6, 2) := by decide +kernel
theorem dX6_word_145 : decode cX6_word 145 = .ok (.bipush 99, 2) := by decide +kernel
theorem dX6_word_147 : decode cX6_word 147 = .ok (.bipush 97, 2) := by decide +kernel
theorem dX6_word_149 : decode cX6_word 149 = .ok (.bipush 110, 2) := by decide +kernel
theorem dX6_word_151 : decode cX6_word 151 = .ok (.bipush 99, 2) := by decide +kernel
theorem dX6_word_153 : decode cX6_word 153 = .ok (.invokevirtual 168, 3) := by decide +kernel
theorem dX6_word_156 : decode cX6_word 156 = .ok (.ifCond .eq 29, 3) := by decide +kernel
theorem dX6_word_159 : decode cX6_word 159 = .ok (.aload_n 0, 1) := by decide +kernel
theorem dX6_word_160 : decode cX6_word 160 = .ok (.getfield 29, 3) := by decide +kernel
theorem dX6_word_163 : decode cX6_word 163 = .ok (.iconst 4, 1) := by decide +kernel
theorem dX6_word_164 : decode cX6_word 164 = .ok (.caload, 1) := by decide +kernel
theorem dX6_word_165 : decode cX6_word 165 = .ok (.bipush 101, 2) := by decide +kernel
theorem dX6_word_167 : decode cX6_word 167 = .ok (.if_icmp .ne 18, 3) := by decide +kernel
theorem dX6_word_170 : decode cX6_word 170 = .ok (.aload_n 0, 1) := by decide +kernel
theorem dX6_word_171 : decode cX6_word 171 = .ok (.getfield 29, 3) := by decide +kernel
theorem dX6_word_174 : decode cX6_word 174 = .ok (.iconst 5, 1) := by decide +kernel
theorem dX6_word_175 : decode cX6_word 175 = .ok (.caload, 1) := by decide +kernel
theorem dX6_word_176 : decode cX6_word 176 = .ok (.bipush 108, 2) := by decide +kernel
theorem dX6_word_178 : decode cX6_word 178 = .ok (.if_icmp .ne 7, 3) := by decide +kernel
theorem dX6_word_181 : decode cX6_word 181 = .ok (.iconst 3, 1) := by decide +kernel
theorem dX6_word_182 : decode cX6_word 182 = .ok (.goto 5, 3) := by decide +kernel
theorem dX6_word_185 : decode cX6_word 185 = .ok (.bipush (-5), 2) := by decide +kernel
theorem dX6_word_187 : decode cX6_word 187 = .ok (.ireturn, 1) := by decide +kernel
theorem dX6_number_0 : decode cX6_number 0 = .ok (.aload_n 0, 1) := by decide +kernel
theorem dX6_number_1 : decode cX6_number 1 = .ok (.getfield 165, 3) := by decide +kernel
theorem dX6_number_4 : decode cX6_number 4 = .ok (.aload_n 0, 1) := by decide +kernel
theorem dX6_number_5 : decode cX6_number 5 = .ok (.getfield 162, 3) := by decide +kernel
theorem dX6_number_8 : decode cX6_number 8 = .ok (.if_icmp .ge 17, 3) := by decide +kernel
theorem dX6_number_11 : decode cX6_number 11 = .ok (.aload_n 0, 1) := by decide +kernel
theorem dX6_number_12 : decode cX6_number 12 = .ok (.getfield 29, 3) := by decide +kernel
theorem dX6_number_15 : decode cX6_number 15 = .ok (.aload_n 0, 1) := by decide +kernel
theorem dX6_number_16 : decode cX6_number 16 = .ok (.getfield 165, 3) := by decide +kernel
theorem dX6_number_19 : decode cX6_number 19 = .ok (.caload, 1) := by decide +kernel
theorem dX6_number_20 : decode cX6_number 20 = .ok (.bipush 32, 2) := by decide +kernel
theorem dX6_number_22 : decode cX6_number 22 = .ok (.if_icmp .eq 6, 3) := by decide +kernel
theorem dX6_number_25 : decode cX6_number 25 = .ok (.bipush (-5), 2) := by decide +kernel
theorem dX6_number_27 : decode cX6_number 27 = .ok (.ireturn, 1) := by decide +kernel
theorem dX6_number_28 : decode cX6_number 28 = .ok (.aload_n 0, 1) := by decide +kernel
theorem dX6_number_29 : decode cX6_number 29 = .ok (.dup, 1) := by decide +kernel
theorem dX6_number_30 : decode cX6_number 30 = .ok (.getfield 165, 3) := by decide +kernel
theorem dX6_number_33 : decode cX6_number 33 = .ok (.iconst 1, 1) := by decide +kernel
theorem dX6_number_34 : decode cX6_number 34 = .ok (.iadd, 1) := by decide +kernel
theorem dX6_number_35 : decode cX6_number 35 = .ok (.putfield 165, 3) := by decide +kernel
theorem dX6_number_38 : decode cX6_number 38 = .ok (.aload_n 0, 1) := by decide +kernel
theorem dX6_number_39 : decode cX6_number 39 = .ok (.getfield 165, 3) := by decide +kernel
theorem dX6_number_42 : decode cX6_number 42 = .ok (.aload_n 0, 1) := by decide +kernel
theorem dX6_number_43 : decode cX6_number 43 = .ok (.getfield 162, 3) := by decide +kernel
theorem dX6_number_46 : decode cX6_number 46 = .ok (.if_icmp .ge 22, 3) := by decide +kernel
theorem dX6_number_49 : decode cX6_number 49 = .ok (.aload_n 0, 1) := by decide +kernel
theorem dX6_number_50 : decode cX6_number 50 = .ok (.getfield 29, 3) := by decide +kernel
theorem dX6_number_53 : decode cX6_number 53 = .ok (.aload_n 0, 1) := by decide +kernel
theorem dX6_number_54 : decode cX6_number 54 = .ok (.getfield 165, 3) := by decide +kernel
theorem dX6_number_57 : decode cX6_number 57 = .ok (.caload, 1) := by decide +kernel
theorem dX6_number_58 : decode cX6_number 58 = .ok (.bipush 48, 2) := by decide +kernel
theorem dX6_number_60 : decode cX6_number 60 = .ok (.bipush 57, 2) := by decide +kernel
theorem dX6_number_62 : decode cX6_number 62 = .ok (.invokestatic 37, 3) := by decide +kernel
theorem dX6_number_65 : decode cX6_number 65 = .ok (.ifCond .ne 6, 3) := by decide +kernel
theorem dX6_number_68 : decode cX6_number 68 = .ok (.bipush (-5), 2) := by decide +kernel
theorem dX6_number_70 : decode cX6_number 70 = .ok (.ireturn, 1) := by decide +kernel
theorem dX6_number_71 : decode cX6_number 71 = .ok (.aload_n 0, 1) := by decide +kernel
theorem dX6_number_72 : decode cX6_number 72 = .ok (.getfield 29, 3) := by decide +kernel
theorem dX6_number_75 : decode cX6_number 75 = .ok (.aload_n 0, 1) := by decide +kernel
theorem dX6_number_76 : decode cX6_number 76 = .ok (.getfield 165, 3) := by decide +kernel
theorem dX6_number_79 : decode cX6_number 79 = .ok (.caload, 1) := by decide +kernel
theorem dX6_number_80 : decode cX6_number 80 = .ok (.bipush 48, 2) := by decide +kernel
theorem dX6_number_82 : decode cX6_number 82 = .ok (.isub, 1) := by decide +kernel
theorem dX6_number_83 : decode cX6_number 83 = .ok (.istore_n 1, 1) := by decide +kernel
theorem dX6_number_84 : decode cX6_number 84 = .ok (.aload_n 0, 1) := by decide +kernel
theorem dX6_number_85 : decode cX6_number 85 = .ok (.dup, 1) := by decide +kernel
theorem dX6_number_86 : decode cX6_number 86 = .ok (.getfield 165, 3) := by decide +kernel
theorem dX6_number_89 : decode cX6_number 89 = .ok (.iconst 1, 1) := by decide +kernel
theorem dX6_number_90 : decode cX6_number 90 = .ok (.iadd, 1) := by decide +kernel
theorem dX6_number_91 : decode cX6_number 91 = .ok (.putfield 165, 3) := by decide +kernel
theorem dX6_number_94 : decode cX6_number 94 = .ok (.iload_n 1, 1) := by decide +kernel
theorem dX6_number_95 : decode cX6_number 95 = .ok (.ifCond .le 61, 3) := by decide +kernel
theorem dX6_number_98 : decode cX6_number 98 = .ok (.aload_n 0, 1) := by decide +kernel
theorem dX6_number_99 : decode cX6_number 99 = .ok (.getfield 165, 3) := by decide +kernel
theorem dX6_number_102 : decode cX6_number 102 = .ok (.aload_n 0, 1) := by decide +kernel
theorem dX6_number_103 : decode cX6_number 103 = .ok (.getfield 162, 3) := by decide +kernel
theorem dX6_number_106 : decode cX6_number 106 = .ok (.if_icmp .ge 50, 3) := by decide +kernel
theorem dX6_number_109 : decode cX6_number 109 = .ok (.aload_n 0, 1) := by decide +kernel
theorem dX6_number_110 : decode cX6_number 110 = .ok (.getfield 29, 3) := by decide +kernel
theorem dX6_number_113 : decode cX6_number 113 = .ok (.aload_n 0, 1) := by decide +kernel
theorem dX6_number_114 : decode cX6_number 114 = .ok (.getfield 165, 3) := by decide +kernel
theorem dX6_number_117 : decode cX6_number 117 = .ok (.caload, 1) := by decide +kernel
theorem dX6_number_118 : decode cX6_number 118 = .ok (.bipush 48, 2) := by decide +kernel
theorem dX6_number_120 : decode cX6_number 120 = .ok (.bipush 57, 2) := by decide +kernel
theorem dX6_number_122 : decode cX6_number 122 = .ok (.invokestatic 37, 3) := by decide +kernel
theorem dX6_number_125 : decode cX6_number 125 = .ok (.ifCond .eq 31, 3) := by decide +kernel
theorem dX6_number_128 : decode cX6_number 128 = .ok (.bipush 10, 2) := by decide +kernel
theorem dX6_number_130 : decode cX6_number 130 = .ok (.iload_n 1, 1) := by decide +kernel
theorem dX6_number_131 : decode cX6_number 131 = .ok (.imul, 1) := by decide +kernel
theorem dX6_number_132 : decode cX6_number 132 = .ok (.aload_n 0, 1) := by decide +kernel
theorem dX6_number_133 : decode cX6_number 133 = .ok (.getfield 29, 3) := by decide +kernel
theorem dX6_number_136 : decode cX6_number 136 = .ok (.aload_n 0, 1) := by decide +kernel
theorem dX6_number_137 : decode cX6_number 137 = .ok (.getfield 165, 3) := by decide +kernel
theorem dX6_number_140 : decode cX6_number 140 = .ok (.caload, 1) := by decide +kernel
theorem dX6_number_141 : decode cX6_number 141 = .ok (.iadd, 1) := by decide +kernel
theorem dX6_number_142 : decode cX6_number 142 = .ok (.bipush 48, 2) := by decide +kernel
theorem dX6_number_144 : decode cX6_number 144 = .ok (.isub, 1) := by decide +kernel
theorem dX6_number_145 : decode cX6_number 145 = .ok (.istore_n 1, 1) := by decide +kernel
theorem dX6_number_146 : decode cX6_number 146 = .ok (.aload_n 0, 1) := by decide +kernel
theorem dX6_number_147 : decode cX6_number 147 = .ok (.dup, 1) := by decide +kernel
theorem dX6_number_148 : decode cX6_number 148 = .ok (.getfield 165, 3) := by decide +kernel
theorem dX6_number_151 : decode cX6_number 151 = .ok (.iconst 1, 1) := by decide +kernel
theorem dX6_number_152 : decode cX6_number 152 = .ok (.iadd, 1) := by decide +kernel
theorem dX6_number_153 : decode cX6_number 153 = .ok (.putfield 165, 3) := by decide +kernel
theorem dX6_number_156 : decode cX6_number 156 = .ok (.iload_n 1, 1) := by decide +kernel
theorem dX6_number_157 : decode cX6_number 157 = .ok (.ireturn, 1) := by decide +kernel
theorem dX6_perform_0 : decode cX6_perform 0 = .ok (.aload_n 0, 1) := by decide +kernel
theorem dX6_perform_1 : decode cX6_perform 1 = .ok (.invokevirtual 172, 3) := by decide +kernel
theorem dX6_perform_4 : decode cX6_perform 4 = .ok (.istore_n 1, 1) := by decide +kernel
theorem dX6_perform_5 : decode cX6_perform 5 = .ok (.iload_n 1, 1) := by decide +kernel
theorem dX6_perform_6 : decode cX6_perform 6 = .ok (.bipush (-5), 2) := by decide +kernel
theorem dX6_perform_8 : decode cX6_perform 8 = .ok (.if_icmp .ne 6, 3) := by decide +kernel
theorem dX6_perform_11 : decode cX6_perform 11 = .ok (.bipush (-100), 2) := by decide +kernel
theorem dX6_perform_13 : decode cX6_perform 13 = .ok (.ireturn, 1) := by decide +kernel
theorem dX6_perform_14 : decode cX6_perform 14 = .ok (.aload_n 0, 1) := by decide +kernel
theorem dX6_perform_15 : decode cX6_perform 15 = .ok (.aload_n 0, 1) := by decide +kernel
theorem dX6_perform_16 : decode cX6_perform 16 = .ok (.invokevirtual 175, 3) := by decide +kernel
theorem dX6_perform_19 : decode cX6_perform 19 = .ok (.putfield 178, 3) := by decide +kernel
theorem dX6_perform_22 : decode cX6_perform 22 = .ok (.aload_n 0, 1) := by decide +kernel
theorem dX6_perform_23 : decode cX6_perform 23 = .ok (.getfield 178, 3) := by decide +kernel
theorem dX6_perform_26 : decode cX6_perform 26 = .ok (.bipush (-5), 2) := by decide +kernel
theorem dX6_perform_28 : decode cX6_perform 28 = .ok (.if_icmp .ne 11, 3) := by decide +kernel
theorem dX6_perform_31 : decode cX6_perform 31 = .ok (.bipush (-100), 2) := by decide +kernel
theorem dX6_perform_33 : decode cX6_perform 33 = .ok (.aload_n 0, 1) := by decide +kernel
theorem dX6_perform_34 : decode cX6_perform 34 = .ok (.getfield 165, 3) := by decide +kernel
theorem dX6_perform_37 : decode cX6_perform 37 = .ok (.isub, 1) := by decide +kernel
theorem dX6_perform_38 : decode cX6_perform 38 = .ok (.ireturn, 1) := by decide +kernel
theorem dX6_perform_39 : decode cX6_perform 39 = .ok (.aload_n 0, 1) := by decide +kernel
theorem dX6_perform_40 : decode cX6_perform 40 = .ok (.iload_n 1, 1) := by decide +kernel
theorem dX6_perform_41 : decode cX6_perform 41 = .ok (.iconst 3, 1) := by decide +kernel
theorem dX6_perform_42 : decode cX6_perform 42 = .ok (.if_icmp .ne 7, 3) := by decide +kernel
theorem dX6_perform_45 : decode cX6_perform 45 = .ok (.iconst 0, 1) := by decide +kernel
theorem dX6_perform_46 : decode cX6_perform 46 = .ok (.goto 7, 3) := by decide +kernel
theorem dX6_perform_49 : decode cX6_perform 49 = .ok (.aload_n 0, 1) := by decide +kernel
theorem dX6_perform_50 : decode cX6_perform 50 = .ok (.invokevirtual 175, 3) := by decide +kernel
theorem dX6_perform_53 : decode cX6_perform 53 = .ok (.putfield 181, 3) := by decide +kernel
theorem dX6_perform_56 : decode cX6_perform 56 = .ok (.aload_n 0, 1) := by decide +kernel
theorem dX6_perform_57 : decode cX6_perform 57 = .ok (.getfield 181, 3) := by decide +kernel
theorem dX6_perform_60 : decode cX6_perform 60 = .ok (.bipush (-5), 2) := by decide +kernel
theorem dX6_perform_62 : decode cX6_perform 62 = .ok (.if_icmp .eq 14, 3) := by decide +kernel
theorem dX6_perform_65 : decode cX6_perform 65 = .ok (.aload_n 0, 1) := by decide +kernel
theorem dX6_perform_66 : decode cX6_perform 66 = .ok (.getfield 165, 3) := by decide +kernel
theorem dX6_perform_69 : decode cX6_perform 69 = .ok (.aload_n 0, 1) := by decide +kernel
theorem dX6_perform_70 : decode cX6_perform 70 = .ok (.getfield 162, 3) := by decide +kernel
theorem dX6_perform_73 : decode cX6_perform 73 = .ok (.if_icmp .eq 11, 3) := by decide +kernel
theorem dX6_perform_76 : decode cX6_perform 76 = .ok (.bipush (-100), 2) := by decide +kernel
theorem dX6_perform_78 : decode cX6_perform 78 = .ok (.aload_n 0, 1) := by decide +kernel
theorem dX6_perform_79 : decode cX6_perform 79 = .ok (.getfield 165, 3) := by decide +kernel
theorem dX6_perform_82 : decode cX6_perform 82 = .ok (.isub, 1) := by decide +kernel
theorem dX6_perform_83 : decode cX6_perform 83 = .ok (.ireturn, 1) := by decide +kernel
theorem dX6_perform_84 : decode cX6_perform 84 = .ok (.iload_n 1, 1) := by decide +kernel
theorem dX6_perform_85 : decode cX6_perform 85 = .ok (.tableswitch 79 0 3 #[31, 44, 57, 70], 31) := by decide +kernel
theorem dX6_perform_116 : decode cX6_perform 116 = .ok (.aload_n 0, 1) := by decide +kernel
theorem dX6_perform_117 : decode cX6_perform 117 = .ok (.aload_n 0, 1) := by decide +kernel
theorem dX6_perform_118 : decode cX6_perform 118 = .ok (.getfield 178, 3) := by decide +kernel
theorem dX6_perform_121 : decode cX6_perform 121 = .ok (.aload_n 0, 1) := by decide +kernel
theorem dX6_perform_122 : decode cX6_perform 122 = .ok (.getfield 181, 3) := by decide +kernel
theorem dX6_perform_125 : decode cX6_perform 125 = .ok (.invokevirtual 184, 3) := by decide +kernel
theorem dX6_perform_128 : decode cX6_perform 128 = .ok (.ireturn, 1) := by decide +kernel
theorem dX6_perform_129 : decode cX6_perform 129 = .ok (.aload_n 0, 1) := by decide +kernel
theorem dX6_perform_130 : decode cX6_perform 130 = .ok (.aload_n 0, 1) := by decide +kernel
theorem dX6_perform_131 : decode cX6_perform 131 = .ok (.getfield 178, 3) := by decide +kernel
theorem dX6_perform_134 : decode cX6_perform 134 = .ok (.aload_n 0, 1) := by decide +kernel
theorem dX6_perform_135 : decode cX6_perform 135 = .ok (.getfield 181, 3) := by decide +kernel
theorem dX6_perform_138 : decode cX6_perform 138 = .ok (.invokevirtual 187, 3) := by decide +kernel
theorem dX6_perform_141 : decode cX6_perform 141 = .ok (.ireturn, 1) := by decide +kernel
theorem dX6_perform_142 : decode cX6_perform 142 = .ok (.aload_n 0, 1) := by decide +kernel
theorem dX6_perform_143 : decode cX6_perform 143 = .ok (.aload_n 0, 1) := by decide +kernel
theorem dX6_perform_144 : decode cX6_perform 144 = .ok (.getfield 178, 3) := by decide +kernel
theorem dX6_perform_147 : decode cX6_perform 147 = .ok (.aload_n 0, 1) := by decide +kernel
theorem dX6_perform_148 : decode cX6_perform 148 = .ok (.getfield 181, 3) := by decide +kernel
theorem dX6_perform_151 : decode cX6_perform 151 = .ok (.invokevirtual 190, 3) := by decide +kernel
theorem dX6_perform_154 : decode cX6_perform 154 = .ok (.ireturn, 1) := by decide +kernel
theorem dX6_perform_155 : decode cX6_perform 155 = .ok (.aload_n 0, 1) := by decide +kernel
theorem dX6_perform_156 : decode cX6_perform 156 = .ok (.aload_n 0, 1) := by decide +kernel
theorem dX6_perform_157 : decode cX6_perform 157 = .ok (.getfield 178, 3) := by decide +kernel
theorem dX6_perform_160 : decode cX6_perform 160 = .ok (.invokevirtual 193, 3) := by decide +kernel
theorem dX6_perform_163 : decode cX6_perform 163 = .ok (.ireturn, 1) := by decide +kernel
theorem dX6_perform_164 : decode cX6_perform 164 = .ok (.aload_n 0, 1) := by decide +kernel
theorem dX6_perform_165 : decode cX6_perform 165 = .ok (.aload_n 0, 1) := by decide +kernel
theorem dX6_perform_166 : decode cX6_perform 166 = .ok (.getfield 178, 3) := by decide +kernel
theorem dX6_perform_169 : decode cX6_perform 169 = .ok (.aload_n 0, 1) := by decide +kernel
theorem dX6_perform_170 : decode cX6_perform 170 = .ok (.getfield 181, 3) := by decide +kernel
theorem dX6_perform_173 : decode cX6_perform 173 = .ok (.invokevirtual 196, 3) := by decide +kernel
theorem dX6_perform_176 : decode cX6_perform 176 = .ok (.ireturn, 1) := by decide +kernel
theorem dX6_undo_0 : decode cX6_undo 0 = .ok (.aload_n 0, 1) := by decide +kernel
theorem dX6_undo_1 : decode cX6_undo 1 = .ok (.getfield 33, 3) := by decide +kernel
theorem dX6_undo_4 : decode cX6_undo 4 = .ok (.ifCond .ne 6, 3) := by decide +kernel
theorem dX6_undo_7 : decode cX6_undo 7 = .ok (.bipush (-5), 2) := by decide +kernel
theorem dX6_undo_9 : decode cX6_undo 9 = .ok (.ireturn, 1) := by decide +kernel
theorem dX6_undo_10 : decode cX6_undo 10 = .ok (.aload_n 0, 1) := by decide +kernel
theorem dX6_undo_11 : decode cX6_undo 11 = .ok (.dup, 1) := by decide +kernel
theorem dX6_undo_12 : decode cX6_undo 12 = .ok (.getfield 33, 3) := by decide +kernel
theorem dX6_undo_15 : decode cX6_undo 15 = .ok (.iconst 1, 1) := by decide +kernel
theorem dX6_undo_16 : decode cX6_undo 16 = .ok (.isub, 1) := by decide +kernel
theorem dX6_undo_17 : decode cX6_undo 17 = .ok (.putfield 33, 3) := by decide +kernel
theorem dX6_undo_20 : decode cX6_undo 20 = .ok (.iconst 0, 1) := by decide +kernel
theorem dX6_undo_21 : decode cX6_undo 21 = .ok (.istore_n 1, 1) := by decide +kernel
theorem dX6_undo_22 : decode cX6_undo 22 = .ok (.iload_n 1, 1) := by decide +kernel
theorem dX6_undo_23 : decode cX6_undo 23 = .ok (.sipush 180, 3) := by decide +kernel
theorem dX6_undo_26 : decode cX6_undo 26 = .ok (.if_icmp .ge 30, 3) := by decide +kernel
theorem dX6_undo_29 : decode cX6_undo 29 = .ok (.aload_n 0, 1) := by decide +kernel
theorem dX6_undo_30 : decode cX6_undo 30 = .ok (.getfield 7, 3) := by decide +kernel
theorem dX6_undo_33 : decode cX6_undo 33 = .ok (.iload_n 1, 1) := by decide +kernel
theorem dX6_undo_34 : decode cX6_undo 34 = .ok (.aload_n 0, 1) := by decide +kernel
theorem dX6_undo_35 : decode cX6_undo 35 = .ok (.getfield 13, 3) := by decide +kernel
theorem dX6_undo_38 : decode cX6_undo 38 = .ok (.sipush 180, 3) := by decide +kernel
theorem dX6_undo_41 : decode cX6_undo 41 = .ok (.aload_n 0, 1) := by decide +kernel
theorem dX6_undo_42 : decode cX6_undo 42 = .ok (.getfield 33, 3) := by decide +kernel
theorem dX6_undo_45 : decode cX6_undo 45 = .ok (.imul, 1) := by decide +kernel
theorem dX6_undo_46 : decode cX6_undo 46 = .ok (.iload_n 1, 1) := by decide +kernel
theorem dX6_undo_47 : decode cX6_undo 47 = .ok (.iadd, 1) := by decide +kernel
theorem dX6_undo_48 : decode cX6_undo 48 = .ok (.iaload, 1) := by decide +kernel
theorem dX6_undo_49 : decode cX6_undo 49 = .ok (.iastore, 1) := by decide +kernel
theorem dX6_undo_50 : decode cX6_undo 50 = .ok (.iinc 1 1, 3) := by decide +kernel
theorem dX6_undo_53 : decode cX6_undo 53 = .ok (.goto (-31), 3) := by decide +kernel
theorem dX6_undo_56 : decode cX6_undo 56 = .ok (.iconst 0, 1) := by decide +kernel
theorem dX6_undo_57 : decode cX6_undo 57 = .ok (.istore_n 1, 1) := by decide +kernel
theorem dX6_undo_58 : decode cX6_undo 58 = .ok (.iload_n 1, 1) := by decide +kernel
theorem dX6_undo_59 : decode cX6_undo 59 = .ok (.bipush 17, 2) := by decide +kernel
theorem dX6_undo_61 : decode cX6_undo 61 = .ok (.if_icmp .ge 29, 3) := by decide +kernel
theorem dX6_undo_64 : decode cX6_undo 64 = .ok (.aload_n 0, 1) := by decide +kernel
theorem dX6_undo_65 : decode cX6_undo 65 = .ok (.getfield 19, 3) := by decide +kernel
theorem dX6_undo_68 : decode cX6_undo 68 = .ok (.iload_n 1, 1) := by decide +kernel
theorem dX6_undo_69 : decode cX6_undo 69 = .ok (.aload_n 0, 1) := by decide +kernel
theorem dX6_undo_70 : decode cX6_undo 70 = .ok (.getfield 23, 3) := by decide +kernel
theorem dX6_undo_73 : decode cX6_undo 73 = .ok (.bipush 17, 2) := by decide +kernel
theorem dX6_undo_75 : decode cX6_undo 75 = .ok (.aload_n 0, 1) := by decide +kernel
theorem dX6_undo_76 : decode cX6_undo 76 = .ok (.getfield 33, 3) := by decide +kernel
theorem dX6_undo_79 : decode cX6_undo 79 = .ok (.imul, 1) := by decide +kernel
theorem dX6_undo_80 : decode cX6_undo 80 = .ok (.iload_n 1, 1) := by decide +kernel
theorem dX6_undo_81 : decode cX6_undo 81 = .ok (.iadd, 1) := by decide +kernel
theorem dX6_undo_82 : decode cX6_undo 82 = .ok (.daload, 1) := by decide +kernel
theorem dX6_undo_83 : decode cX6_undo 83 = .ok (.dastore, 1) := by decide +kernel
theorem dX6_undo_84 : decode cX6_undo 84 = .ok (.iinc 1 1, 3) := by decide +kernel
theorem dX6_undo_87 : decode cX6_undo 87 = .ok (.goto (-29), 3) := by decide +kernel
theorem dX6_undo_90 : decode cX6_undo 90 = .ok (.aload_n 0, 1) := by decide +kernel
theorem dX6_undo_91 : decode cX6_undo 91 = .ok (.getfield 33, 3) := by decide +kernel
theorem dX6_undo_94 : decode cX6_undo 94 = .ok (.ireturn, 1) := by decide +kernel
theorem dX6_keep_0 : decode cX6_keep 0 = .ok (.iconst 0, 1) := by decide +kernel
theorem dX6_keep_1 : decode cX6_keep 1 = .ok (.istore_n 1, 1) := by decide +kernel
theorem dX6_keep_2 : decode cX6_keep 2 = .ok (.iload_n 1, 1) := by decide +kernel
theorem dX6_keep_3 : decode cX6_keep 3 = .ok (.sipush 180, 3) := by decide +kernel
theorem dX6_keep_6 : decode cX6_keep 6 = .ok (.if_icmp .ge 21, 3) := by decide +kernel
theorem dX6_keep_9 : decode cX6_keep 9 = .ok (.aload_n 0, 1) := by decide +kernel
theorem dX6_keep_10 : decode cX6_keep 10 = .ok (.getfield 16, 3) := by decide +kernel
theorem dX6_keep_13 : decode cX6_keep 13 = .ok (.iload_n 1, 1) := by decide +kernel
theorem dX6_keep_14 : decode cX6_keep 14 = .ok (.aload_n 0, 1) := by decide +kernel
theorem dX6_keep_15 : decode cX6_keep 15 = .ok (.getfield 7, 3) := by decide +kernel
theorem dX6_keep_18 : decode cX6_keep 18 = .ok (.iload_n 1, 1) := by decide +kernel
theorem dX6_keep_19 : decode cX6_keep 19 = .ok (.iaload, 1) := by decide +kernel
theorem dX6_keep_20 : decode cX6_keep 20 = .ok (.iastore, 1) := by decide +kernel
theorem dX6_keep_21 : decode cX6_keep 21 = .ok (.iinc 1 1, 3) := by decide +kernel
theorem dX6_keep_24 : decode cX6_keep 24 = .ok (.goto (-22), 3) := by decide +kernel
theorem dX6_keep_27 : decode cX6_keep 27 = .ok (.iconst 0, 1) := by decide +kernel
theorem dX6_keep_28 : decode cX6_keep 28 = .ok (.istore_n 1, 1) := by decide +kernel
theorem dX6_keep_29 : decode cX6_keep 29 = .ok (.iload_n 1, 1) := by decide +kernel
theorem dX6_keep_30 : decode cX6_keep 30 = .ok (.bipush 17, 2) := by decide +kernel
theorem dX6_keep_32 : decode cX6_keep 32 = .ok (.if_icmp .ge 21, 3) := by decide +kernel
theorem dX6_keep_35 : decode cX6_keep 35 = .ok (.aload_n 0, 1) := by decide +kernel
theorem dX6_keep_36 : decode cX6_keep 36 = .ok (.getfield 26, 3) := by decide +kernel
theorem dX6_keep_39 : decode cX6_keep 39 = .ok (.iload_n 1, 1) := by decide +kernel
theorem dX6_keep_40 : decode cX6_keep 40 = .ok (.aload_n 0, 1) := by decide +kernel
theorem dX6_keep_41 : decode cX6_keep 41 = .ok (.getfield 19, 3) := by decide +kernel
theorem dX6_keep_44 : decode cX6_keep 44 = .ok (.iload_n 1, 1) := by decide +kernel
theorem dX6_keep_45 : decode cX6_keep 45 = .ok (.daload, 1) := by decide +kernel
theorem dX6_keep_46 : decode cX6_keep 46 = .ok (.dastore, 1) := by decide +kernel
theorem dX6_keep_47 : decode cX6_keep 47 = .ok (.iinc 1 1, 3) := by decide +kernel
theorem dX6_keep_50 : decode cX6_keep 50 = .ok (.goto (-21), 3) := by decide +kernel
theorem dX6_keep_53 : decode cX6_keep 53 = .ok (.aload_n 0, 1) := by decide +kernel
theorem dX6_keep_54 : decode cX6_keep 54 = .ok (.iconst 1, 1) := by decide +kernel
theorem dX6_keep_55 : decode cX6_keep 55 = .ok (.putfield 199, 3) := by decide +kernel
theorem dX6_keep_58 : decode cX6_keep 58 = .ok (.aload_n 0, 1) := by decide +kernel
theorem dX6_keep_59 : decode cX6_keep 59 = .ok (.getfield 7, 3) := by decide +kernel
theorem dX6_keep_62 : decode cX6_keep 62 = .ok (.iconst 0, 1) := by decide +kernel
theorem dX6_keep_63 : decode cX6_keep 63 = .ok (.iaload, 1) := by decide +kernel
theorem dX6_keep_64 : decode cX6_keep 64 = .ok (.ireturn, 1) := by decide +kernel
theorem dX6_restore_0 : decode cX6_restore 0 = .ok (.aload_n 0, 1) := by decide +kernel
theorem dX6_restore_1 : decode cX6_restore 1 = .ok (.getfield 199, 3) := by decide +kernel
theorem dX6_restore_4 : decode cX6_restore 4 = .ok (.ifCond .ne 6, 3) := by decide +kernel
theorem dX6_restore_7 : decode cX6_restore 7 = .ok (.bipush (-5), 2) := by decide +kernel
theorem dX6_restore_9 : decode cX6_restore 9 = .ok (.ireturn, 1) := by decide +kernel
theorem dX6_restore_10 : decode cX6_restore 10 = .ok (.aload_n 0, 1) := by decide +kernel
theorem dX6_restore_11 : decode cX6_restore 11 = .ok (.invokevirtual 49, 3) := by decide +kernel
theorem dX6_restore_14 : decode cX6_restore 14 = .ok (.iconst 0, 1) := by decide +kernel
theorem dX6_restore_15 : decode cX6_restore 15 = .ok (.istore_n 1, 1) := by decide +kernel
theorem dX6_restore_16 : decode cX6_restore 16 = .ok (.iload_n 1, 1) := by decide +kernel
theorem dX6_restore_17 : decode cX6_restore 17 = .ok (.sipush 180, 3) := by decide +kernel
theorem dX6_restore_20 : decode cX6_restore 20 = .ok (.if_icmp .ge 21, 3) := by decide +kernel
theorem dX6_restore_23 : decode cX6_restore 23 = .ok (.aload_n 0, 1) := by decide +kernel
theorem dX6_restore_24 : decode cX6_restore 24 = .ok (.getfield 7, 3) := by decide +kernel
theorem dX6_restore_27 : decode cX6_restore 27 = .ok (.iload_n 1, 1) := by decide +kernel
theorem dX6_restore_28 : decode cX6_restore 28 = .ok (.aload_n 0, 1) := by decide +kernel
theorem dX6_restore_29 : decode cX6_restore 29 = .ok (.getfield 16, 3) := by decide +kernel
theorem dX6_restore_32 : decode cX6_restore 32 = .ok (.iload_n 1, 1) := by decide +kernel
theorem dX6_restore_33 : decode cX6_restore 33 = .ok (.iaload, 1) := by decide +kernel
theorem dX6_restore_34 : decode cX6_restore 34 = .ok (.iastore, 1) := by decide +kernel
theorem dX6_restore_35 : decode cX6_restore 35 = .ok (.iinc 1 1, 3) := by decide +kernel
theorem dX6_restore_38 : decode cX6_restore 38 = .ok (.goto (-22), 3) := by decide +kernel
theorem dX6_restore_41 : decode cX6_restore 41 = .ok (.iconst 0, 1) := by decide +kernel
theorem dX6_restore_42 : decode cX6_restore 42 = .ok (.istore_n 1, 1) := by decide +kernel
theorem dX6_restore_43 : decode cX6_restore 43 = .ok (.iload_n 1, 1) := by decide +kernel
theorem dX6_restore_44 : decode cX6_restore 44 = .ok (.bipush 17, 2) := by decide +kernel
theorem dX6_restore_46 : decode cX6_restore 46 = .ok (.if_icmp .ge 21, 3) := by decide +kernel
theorem dX6_restore_49 : decode cX6_restore 49 = .ok (.aload_n 0, 1) := by decide +kernel
theorem dX6_restore_50 : decode cX6_restore 50 = .ok (.getfield 19, 3) := by decide +kernel
theorem dX6_restore_53 : decode cX6_restore 53 = .ok (.iload_n 1, 1) := by decide +kernel
theorem dX6_restore_54 : decode cX6_restore 54 = .ok (.aload_n 0, 1) := by decide +kernel
theorem dX6_restore_55 : decode cX6_restore 55 = .ok (.getfield 26, 3) := by decide +kernel
theorem dX6_restore_58 : decode cX6_restore 58 = .ok (.iload_n 1, 1) := by decide +kernel
theorem dX6_restore_59 : decode cX6_restore 59 = .ok (.daload, 1) := by decide +kernel
theorem dX6_restore_60 : decode cX6_restore 60 = .ok (.dastore, 1) := by decide +kernel
theorem dX6_restore_61 : decode cX6_restore 61 = .ok (.iinc 1 1, 3) := by decide +kernel
theorem dX6_restore_64 : decode cX6_restore 64 = .ok (.goto (-21), 3) := by decide +kernel
theorem dX6_restore_67 : decode cX6_restore 67 = .ok (.aload_n 0, 1) := by decide +kernel
theorem dX6_restore_68 : decode cX6_restore 68 = .ok (.getfield 7, 3) := by decide +kernel
theorem dX6_restore_71 : decode cX6_restore 71 = .ok (.iconst 0, 1) := by decide +kernel
theorem dX6_restore_72 : decode cX6_restore 72 = .ok (.iaload, 1) := by decide +kernel
theorem dX6_restore_73 : decode cX6_restore 73 = .ok (.ireturn, 1) := by decide +kernel
theorem dX6_lowestTour_0 : decode cX6_lowestTour 0 = .ok (.iconst 0, 1) := by decide +kernel
theorem dX6_lowestTour_1 : decode cX6_lowestTour 1 = .ok (.istore_n 2, 1) := by decide +kernel
theorem dX6_lowestTour_2 : decode cX6_lowestTour 2 = .ok (.iload_n 2, 1) := by decide +kernel
theorem dX6_lowestTour_3 : decode cX6_lowestTour 3 = .ok (.aload_n 0, 1) := by decide +kernel
theorem dX6_lowestTour_4 : decode cX6_lowestTour 4 = .ok (.getfield 7, 3) := by decide +kernel
theorem dX6_lowestTour_7 : decode cX6_lowestTour 7 = .ok (.iconst 3, 1) := by decide +kernel
theorem dX6_lowestTour_8 : decode cX6_lowestTour 8 = .ok (.iaload, 1) := by decide +kernel
theorem dX6_lowestTour_9 : decode cX6_lowestTour 9 = .ok (.if_icmp .ge 28, 3) := by decide +kernel
theorem dX6_lowestTour_12 : decode cX6_lowestTour 12 = .ok (.aload_n 0, 1) := by decide +kernel
theorem dX6_lowestTour_13 : decode cX6_lowestTour 13 = .ok (.iload_n 2, 1) := by decide +kernel
theorem dX6_lowestTour_14 : decode cX6_lowestTour 14 = .ok (.invokevirtual 117, 3) := by decide +kernel
theorem dX6_lowestTour_17 : decode cX6_lowestTour 17 = .ok (.ifCond .eq 14, 3) := by decide +kernel
theorem dX6_lowestTour_20 : decode cX6_lowestTour 20 = .ok (.aload_n 0, 1) := by decide +kernel
theorem dX6_lowestTour_21 : decode cX6_lowestTour 21 = .ok (.iload_n 1, 1) := by decide +kernel
theorem dX6_lowestTour_22 : decode cX6_lowestTour 22 = .ok (.iload_n 2, 1) := by decide +kernel
theorem dX6_lowestTour_23 : decode cX6_lowestTour 23 = .ok (.invokevirtual 128, 3) := by decide +kernel
theorem dX6_lowestTour_26 : decode cX6_lowestTour 26 = .ok (.ifCond .eq 5, 3) := by decide +kernel
theorem dX6_lowestTour_29 : decode cX6_lowestTour 29 = .ok (.iload_n 2, 1) := by decide +kernel
theorem dX6_lowestTour_30 : decode cX6_lowestTour 30 = .ok (.ireturn, 1) := by decide +kernel
theorem dX6_lowestTour_31 : decode cX6_lowestTour 31 = .ok (.iinc 2 1, 3) := by decide +kernel
theorem dX6_lowestTour_34 : decode cX6_lowestTour 34 = .ok (.goto (-32), 3) := by decide +kernel
theorem dX6_lowestTour_37 : decode cX6_lowestTour 37 = .ok (.bipush (-5), 2) := by decide +kernel
theorem dX6_lowestTour_39 : decode cX6_lowestTour 39 = .ok (.ireturn, 1) := by decide +kernel
theorem dX6_guide_0 : decode cX6_guide 0 = .ok (.aload_n 0, 1) := by decide +kernel
theorem dX6_guide_1 : decode cX6_guide 1 = .ok (.iload_n 1, 1) := by decide +kernel
theorem dX6_guide_2 : decode cX6_guide 2 = .ok (.invokevirtual 52, 3) := by decide +kernel
theorem dX6_guide_5 : decode cX6_guide 5 = .ok (.ifCond .eq 5, 3) := by decide +kernel
theorem dX6_guide_8 : decode cX6_guide 8 = .ok (.iconst (-1), 1) := by decide +kernel
theorem dX6_guide_9 : decode cX6_guide 9 = .ok (.ireturn, 1) := by decide +kernel
theorem dX6_guide_10 : decode cX6_guide 10 = .ok (.iload_n 2, 1) := by decide +kernel
theorem dX6_guide_11 : decode cX6_guide 11 = .ok (.tableswitch 92 0 5 #[37, 44, 51, 72, 78, 85], 37) := by decide +kernel
theorem dX6_guide_48 : decode cX6_guide 48 = .ok (.aload_n 0, 1) := by decide +kernel
theorem dX6_guide_49 : decode cX6_guide 49 = .ok (.iload_n 1, 1) := by decide +kernel
theorem dX6_guide_50 : decode cX6_guide 50 = .ok (.iconst 0, 1) := by decide +kernel
theorem dX6_guide_51 : decode cX6_guide 51 = .ok (.invokevirtual 56, 3) := by decide +kernel
theorem dX6_guide_54 : decode cX6_guide 54 = .ok (.ireturn, 1) := by decide +kernel
theorem dX6_guide_55 : decode cX6_guide 55 = .ok (.aload_n 0, 1) := by decide +kernel
theorem dX6_guide_56 : decode cX6_guide 56 = .ok (.iload_n 1, 1) := by decide +kernel
theorem dX6_guide_57 : decode cX6_guide 57 = .ok (.iconst 1, 1) := by decide +kernel
theorem dX6_guide_58 : decode cX6_guide 58 = .ok (.invokevirtual 56, 3) := by decide +kernel
theorem dX6_guide_61 : decode cX6_guide 61 = .ok (.ireturn, 1) := by decide +kernel
theorem dX6_guide_62 : decode cX6_guide 62 = .ok (.aload_n 0, 1) := by decide +kernel
theorem dX6_guide_63 : decode cX6_guide 63 = .ok (.iload_n 1, 1) := by decide +kernel
theorem dX6_guide_64 : decode cX6_guide 64 = .ok (.iconst 1, 1) := by decide +kernel
theorem dX6_guide_65 : decode cX6_guide 65 = .ok (.invokevirtual 56, 3) := by decide +kernel
theorem dX6_guide_68 : decode cX6_guide 68 = .ok (.aload_n 0, 1) := by decide +kernel
theorem dX6_guide_69 : decode cX6_guide 69 = .ok (.getfield 7, 3) := by decide +kernel
theorem dX6_guide_72 : decode cX6_guide 72 = .ok (.iconst 0, 1) := by decide +kernel
theorem dX6_guide_73 : decode cX6_guide 73 = .ok (.iaload, 1) := by decide +kernel
theorem dX6_guide_74 : decode cX6_guide 74 = .ok (.if_icmp .lt 7, 3) := by decide +kernel
theorem dX6_guide_77 : decode cX6_guide 77 = .ok (.iconst 1, 1) := by decide +kernel
theorem dX6_guide_78 : decode cX6_guide 78 = .ok (.goto 4, 3) := by decide +kernel
theorem dX6_guide_81 : decode cX6_guide 81 = .ok (.iconst 0, 1) := by decide +kernel
theorem dX6_guide_82 : decode cX6_guide 82 = .ok (.ireturn, 1) := by decide +kernel
theorem dX6_guide_83 : decode cX6_guide 83 = .ok (.aload_n 0, 1) := by decide +kernel
theorem dX6_guide_84 : decode cX6_guide 84 = .ok (.iload_n 1, 1) := by decide +kernel
theorem dX6_guide_85 : decode cX6_guide 85 = .ok (.invokevirtual 203, 3) := by decide +kernel
theorem dX6_guide_88 : decode cX6_guide 88 = .ok (.ireturn, 1) := by decide +kernel
theorem dX6_guide_89 : decode cX6_guide 89 = .ok (.aload_n 0, 1) := by decide +kernel
theorem dX6_guide_90 : decode cX6_guide 90 = .ok (.iload_n 1, 1) := by decide +kernel
theorem dX6_guide_91 : decode cX6_guide 91 = .ok (.iconst 2, 1) := by decide +kernel
theorem dX6_guide_92 : decode cX6_guide 92 = .ok (.invokevirtual 56, 3) := by decide +kernel
theorem dX6_guide_95 : decode cX6_guide 95 = .ok (.ireturn, 1) := by decide +kernel
theorem dX6_guide_96 : decode cX6_guide 96 = .ok (.aload_n 0, 1) := by decide +kernel
theorem dX6_guide_97 : decode cX6_guide 97 = .ok (.iload_n 1, 1) := by decide +kernel
theorem dX6_guide_98 : decode cX6_guide 98 = .ok (.iconst 3, 1) := by decide +kernel
theorem dX6_guide_99 : decode cX6_guide 99 = .ok (.invokevirtual 56, 3) := by decide +kernel
theorem dX6_guide_102 : decode cX6_guide 102 = .ok (.ireturn, 1) := by decide +kernel
theorem dX6_guide_103 : decode cX6_guide 103 = .ok (.bipush (-2), 2) := by decide +kernel
theorem dX6_guide_105 : decode cX6_guide 105 = .ok (.ireturn, 1) := by decide +kernel
theorem dX6_tour_0 : decode cX6_tour 0 = .ok (.aload_n 0, 1) := by decide +kernel
theorem dX6_tour_1 : decode cX6_tour 1 = .ok (.iload_n 1, 1) := by decide +kernel
theorem dX6_tour_2 : decode cX6_tour 2 = .ok (.invokevirtual 114, 3) := by decide +kernel
theorem dX6_tour_5 : decode cX6_tour 5 = .ok (.ifCond .eq 5, 3) := by decide +kernel
theorem dX6_tour_8 : decode cX6_tour 8 = .ok (.iconst (-1), 1) := by decide +kernel
theorem dX6_tour_9 : decode cX6_tour 9 = .ok (.ireturn, 1) := by decide +kernel
theorem dX6_tour_10 : decode cX6_tour 10 = .ok (.iload_n 2, 1) := by decide +kernel
theorem dX6_tour_11 : decode cX6_tour 11 = .ok (.iconst 0, 1) := by decide +kernel
theorem dX6_tour_12 : decode cX6_tour 12 = .ok (.bipush 6, 2) := by decide +kernel
theorem dX6_tour_14 : decode cX6_tour 14 = .ok (.invokestatic 37, 3) := by decide +kernel
theorem dX6_tour_17 : decode cX6_tour 17 = .ok (.ifCond .eq 10, 3) := by decide +kernel
theorem dX6_tour_20 : decode cX6_tour 20 = .ok (.aload_n 0, 1) := by decide +kernel
theorem dX6_tour_21 : decode cX6_tour 21 = .ok (.iload_n 1, 1) := by decide +kernel
theorem dX6_tour_22 : decode cX6_tour 22 = .ok (.iload_n 2, 1) := by decide +kernel
theorem dX6_tour_23 : decode cX6_tour 23 = .ok (.invokevirtual 41, 3) := by decide +kernel
theorem dX6_tour_26 : decode cX6_tour 26 = .ok (.ireturn, 1) := by decide +kernel
theorem dX6_tour_27 : decode cX6_tour 27 = .ok (.iload_n 2, 1) := by decide +kernel
theorem dX6_tour_28 : decode cX6_tour 28 = .ok (.tableswitch 87 7 10 #[32, 56, 62, 68], 32) := by decide +kernel
theorem dX6_tour_60 : decode cX6_tour 60 = .ok (.aload_n 0, 1) := by decide +kernel
theorem dX6_tour_61 : decode cX6_tour 61 = .ok (.iload_n 1, 1) := by decide +kernel
theorem dX6_tour_62 : decode cX6_tour 62 = .ok (.bipush 6, 2) := by decide +kernel
theorem dX6_tour_64 : decode cX6_tour 64 = .ok (.invokevirtual 41, 3) := by decide +kernel
theorem dX6_tour_67 : decode cX6_tour 67 = .ok (.iconst 2, 1) := by decide +kernel
theorem dX6_tour_68 : decode cX6_tour 68 = .ok (.if_icmp .ne 13, 3) := by decide +kernel
theorem dX6_tour_71 : decode cX6_tour 71 = .ok (.aload_n 0, 1) := by decide +kernel
theorem dX6_tour_72 : decode cX6_tour 72 = .ok (.iload_n 1, 1) := by decide +kernel
theorem dX6_tour_73 : decode cX6_tour 73 = .ok (.bipush 7, 2) := by decide +kernel
theorem dX6_tour_75 : decode cX6_tour 75 = .ok (.invokevirtual 41, 3) := by decide +kernel
theorem dX6_tour_78 : decode cX6_tour 78 = .ok (.goto 5, 3) := by decide +kernel
theorem dX6_tour_81 : decode cX6_tour 81 = .ok (.bipush (-5), 2) := by decide +kernel
theorem dX6_tour_83 : decode cX6_tour 83 = .ok (.ireturn, 1) := by decide +kernel
theorem dX6_tour_84 : decode cX6_tour 84 = .ok (.aload_n 0, 1) := by decide +kernel
theorem dX6_tour_85 : decode cX6_tour 85 = .ok (.iload_n 1, 1) := by decide +kernel
theorem dX6_tour_86 : decode cX6_tour 86 = .ok (.invokevirtual 105, 3) := by decide +kernel
theorem dX6_tour_89 : decode cX6_tour 89 = .ok (.ireturn, 1) := by decide +kernel
theorem dX6_tour_90 : decode cX6_tour 90 = .ok (.aload_n 0, 1) := by decide +kernel
theorem dX6_tour_91 : decode cX6_tour 91 = .ok (.iload_n 1, 1) := by decide +kernel
theorem dX6_tour_92 : decode cX6_tour 92 = .ok (.invokevirtual 83, 3) := by decide +kernel
theorem dX6_tour_95 : decode cX6_tour 95 = .ok (.ireturn, 1) := by decide +kernel
theorem dX6_tour_96 : decode cX6_tour 96 = .ok (.aload_n 0, 1) := by decide +kernel
theorem dX6_tour_97 : decode cX6_tour 97 = .ok (.iload_n 1, 1) := by decide +kernel
theorem dX6_tour_98 : decode cX6_tour 98 = .ok (.invokevirtual 117, 3) := by decide +kernel
theorem dX6_tour_101 : decode cX6_tour 101 = .ok (.ifCond .eq 11, 3) := by decide +kernel
theorem dX6_tour_104 : decode cX6_tour 104 = .ok (.aload_n 0, 1) := by decide +kernel
theorem dX6_tour_105 : decode cX6_tour 105 = .ok (.iload_n 1, 1) := by decide +kernel
theorem dX6_tour_106 : decode cX6_tour 106 = .ok (.invokevirtual 147, 3) := by decide +kernel
theorem dX6_tour_109 : decode cX6_tour 109 = .ok (.goto 5, 3) := by decide +kernel
theorem dX6_tour_112 : decode cX6_tour 112 = .ok (.bipush (-5), 2) := by decide +kernel
theorem dX6_tour_114 : decode cX6_tour 114 = .ok (.ireturn, 1) := by decide +kernel
theorem dX6_tour_115 : decode cX6_tour 115 = .ok (.bipush (-2), 2) := by decide +kernel
theorem dX6_tour_117 : decode cX6_tour 117 = .ok (.ireturn, 1) := by decide +kernel
theorem dX6_rope_0 : decode cX6_rope 0 = .ok (.aload_n 0, 1) := by decide +kernel
theorem dX6_rope_1 : decode cX6_rope 1 = .ok (.iload_n 1, 1) := by decide +kernel
theorem dX6_rope_2 : decode cX6_rope 2 = .ok (.invokevirtual 114, 3) := by decide +kernel
theorem dX6_rope_5 : decode cX6_rope 5 = .ok (.ifCond .eq 5, 3) := by decide +kernel
theorem dX6_rope_8 : decode cX6_rope 8 = .ok (.iconst (-1), 1) := by decide +kernel
theorem dX6_rope_9 : decode cX6_rope 9 = .ok (.ireturn, 1) := by decide +kernel
theorem dX6_rope_10 : decode cX6_rope 10 = .ok (.iload_n 2, 1) := by decide +kernel
theorem dX6_rope_11 : decode cX6_rope 11 = .ok (.ifCond .lt 12, 3) := by decide +kernel
theorem dX6_rope_14 : decode cX6_rope 14 = .ok (.iload_n 3, 1) := by decide +kernel
theorem dX6_rope_15 : decode cX6_rope 15 = .ok (.iconst 0, 1) := by decide +kernel
theorem dX6_rope_16 : decode cX6_rope 16 = .ok (.iconst 2, 1) := by decide +kernel
theorem dX6_rope_17 : decode cX6_rope 17 = .ok (.invokestatic 37, 3) := by decide +kernel
theorem dX6_rope_20 : decode cX6_rope 20 = .ok (.ifCond .ne 6, 3) := by decide +kernel
theorem dX6_rope_23 : decode cX6_rope 23 = .ok (.bipush (-2), 2) := by decide +kernel
theorem dX6_rope_25 : decode cX6_rope 25 = .ok (.ireturn, 1) := by decide +kernel
theorem dX6_rope_26 : decode cX6_rope 26 = .ok (.iload_n 2, 1) := by decide +kernel
theorem dX6_rope_27 : decode cX6_rope 27 = .ok (.aload_n 0, 1) := by decide +kernel
theorem dX6_rope_28 : decode cX6_rope 28 = .ok (.iload_n 1, 1) := by decide +kernel
theorem dX6_rope_29 : decode cX6_rope 29 = .ok (.iconst 4, 1) := by decide +kernel
theorem dX6_rope_30 : decode cX6_rope 30 = .ok (.invokevirtual 41, 3) := by decide +kernel
theorem dX6_rope_33 : decode cX6_rope 33 = .ok (.if_icmp .lt 6, 3) := by decide +kernel
theorem dX6_rope_36 : decode cX6_rope 36 = .ok (.bipush (-5), 2) := by decide +kernel
theorem dX6_rope_38 : decode cX6_rope 38 = .ok (.ireturn, 1) := by decide +kernel
theorem dX6_rope_39 : decode cX6_rope 39 = .ok (.aload_n 0, 1) := by decide +kernel
theorem dX6_rope_40 : decode cX6_rope 40 = .ok (.iload_n 1, 1) := by decide +kernel
theorem dX6_rope_41 : decode cX6_rope 41 = .ok (.iload_n 2, 1) := by decide +kernel
theorem dX6_rope_42 : decode cX6_rope 42 = .ok (.invokevirtual 87, 3) := by decide +kernel
theorem dX6_rope_45 : decode cX6_rope 45 = .ok (.istore 4, 2) := by decide +kernel
theorem dX6_rope_47 : decode cX6_rope 47 = .ok (.iload_n 3, 1) := by decide +kernel
theorem dX6_rope_48 : decode cX6_rope 48 = .ok (.ifCond .ne 8, 3) := by decide +kernel
theorem dX6_rope_51 : decode cX6_rope 51 = .ok (.iload 4, 2) := by decide +kernel
theorem dX6_rope_53 : decode cX6_rope 53 = .ok (.goto 24, 3) := by decide +kernel
theorem dX6_rope_56 : decode cX6_rope 56 = .ok (.iload_n 3, 1) := by decide +kernel
theorem dX6_rope_57 : decode cX6_rope 57 = .ok (.iconst 1, 1) := by decide +kernel
theorem dX6_rope_58 : decode cX6_rope 58 = .ok (.if_icmp .ne 13, 3) := by decide +kernel
theorem dX6_rope_61 : decode cX6_rope 61 = .ok (.aload_n 0, 1) := by decide +kernel
theorem dX6_rope_62 : decode cX6_rope 62 = .ok (.iload_n 1, 1) := by decide +kernel
theorem dX6_rope_63 : decode cX6_rope 63 = .ok (.iload 4, 2) := by decide +kernel
theorem dX6_rope_65 : decode cX6_rope 65 = .ok (.invokevirtual 90, 3) := by decide +kernel
theorem dX6_rope_68 : decode cX6_rope 68 = .ok (.goto 9, 3) := by decide +kernel
theorem dX6_rope_71 : decode cX6_rope 71 = .ok (.aload_n 0, 1) := by decide +kernel
theorem dX6_rope_72 : decode cX6_rope 72 = .ok (.iload_n 1, 1) := by decide +kernel
theorem dX6_rope_73 : decode cX6_rope 73 = .ok (.iload_n 2, 1) := by decide +kernel
theorem dX6_rope_74 : decode cX6_rope 74 = .ok (.invokevirtual 93, 3) := by decide +kernel
theorem dX6_rope_77 : decode cX6_rope 77 = .ok (.ireturn, 1) := by decide +kernel
theorem dX6_nothing_0 : decode cX6_nothing 0 = .ok (.ldc2_w 206, 3) := by decide +kernel
theorem dX6_nothing_3 : decode cX6_nothing 3 = .ok (.dreturn, 1) := by decide +kernel
theorem dX6_thickness_0 : decode cX6_thickness 0 = .ok (.aload_n 0, 1) := by decide +kernel
theorem dX6_thickness_1 : decode cX6_thickness 1 = .ok (.iload_n 1, 1) := by decide +kernel
theorem dX6_thickness_2 : decode cX6_thickness 2 = .ok (.invokevirtual 208, 3) := by decide +kernel
theorem dX6_thickness_5 : decode cX6_thickness 5 = .ok (.ifCond .eq 9, 3) := by decide +kernel
theorem dX6_thickness_8 : decode cX6_thickness 8 = .ok (.invokestatic 211, 3) := by decide +kernel
theorem dX6_thickness_11 : decode cX6_thickness 11 = .ok (.goto 11, 3) := by decide +kernel
theorem dX6_thickness_14 : decode cX6_thickness 14 = .ok (.aload_n 0, 1) := by decide +kernel
theorem dX6_thickness_15 : decode cX6_thickness 15 = .ok (.getfield 19, 3) := by decide +kernel
theorem dX6_thickness_18 : decode cX6_thickness 18 = .ok (.iconst 1, 1) := by decide +kernel
theorem dX6_thickness_19 : decode cX6_thickness 19 = .ok (.iload_n 1, 1) := by decide +kernel
theorem dX6_thickness_20 : decode cX6_thickness 20 = .ok (.iadd, 1) := by decide +kernel
theorem dX6_thickness_21 : decode cX6_thickness 21 = .ok (.daload, 1) := by decide +kernel
theorem dX6_thickness_22 : decode cX6_thickness 22 = .ok (.dreturn, 1) := by decide +kernel
theorem dX6_foretold_0 : decode cX6_foretold 0 = .ok (.aload_n 0, 1) := by decide +kernel
theorem dX6_foretold_1 : decode cX6_foretold 1 = .ok (.iload_n 1, 1) := by decide +kernel
theorem dX6_foretold_2 : decode cX6_foretold 2 = .ok (.invokevirtual 208, 3) := by decide +kernel
theorem dX6_foretold_5 : decode cX6_foretold 5 = .ok (.ifCond .ne 13, 3) := by decide +kernel
theorem dX6_foretold_8 : decode cX6_foretold 8 = .ok (.iload_n 2, 1) := by decide +kernel
theorem dX6_foretold_9 : decode cX6_foretold 9 = .ok (.iconst 0, 1) := by decide +kernel
theorem dX6_foretold_10 : decode cX6_foretold 10 = .ok (.bipush 30, 2) := by decide +kernel
theorem dX6_foretold_12 : decode cX6_foretold 12 = .ok (.invokestatic 37, 3) := by decide +kernel
theorem dX6_foretold_15 : decode cX6_foretold 15 = .ok (.ifCond .ne 7, 3) := by decide +kernel
theorem dX6_foretold_18 : decode cX6_foretold 18 = .ok (.invokestatic 211, 3) := by decide +kernel
theorem dX6_foretold_21 : decode cX6_foretold 21 = .ok (.dreturn, 1) := by decide +kernel
theorem dX6_foretold_22 : decode cX6_foretold 22 = .ok (.aload_n 0, 1) := by decide +kernel
theorem dX6_foretold_23 : decode cX6_foretold 23 = .ok (.getfield 19, 3) := by decide +kernel
theorem dX6_foretold_26 : decode cX6_foretold 26 = .ok (.iconst 1, 1) := by decide +kernel
theorem dX6_foretold_27 : decode cX6_foretold 27 = .ok (.iload_n 1, 1) := by decide +kernel
theorem dX6_foretold_28 : decode cX6_foretold 28 = .ok (.iadd, 1) := by decide +kernel
theorem dX6_foretold_29 : decode cX6_foretold 29 = .ok (.daload, 1) := by decide +kernel
theorem dX6_foretold_30 : decode cX6_foretold 30 = .ok (.dstore_n 3, 1) := by decide +kernel
theorem dX6_foretold_31 : decode cX6_foretold 31 = .ok (.iconst 0, 1) := by decide +kernel
theorem dX6_foretold_32 : decode cX6_foretold 32 = .ok (.istore 5, 2) := by decide +kernel
theorem dX6_foretold_34 : decode cX6_foretold 34 = .ok (.iload 5, 2) := by decide +kernel
theorem dX6_foretold_36 : decode cX6_foretold 36 = .ok (.iload_n 2, 1) := by decide +kernel
theorem dX6_foretold_37 : decode cX6_foretold 37 = .ok (.if_icmp .ge 15, 3) := by decide +kernel
theorem dX6_foretold_40 : decode cX6_foretold 40 = .ok (.aload_n 0, 1) := by decide +kernel
theorem dX6_foretold_41 : decode cX6_foretold 41 = .ok (.dload_n 3, 1) := by decide +kernel
theorem dX6_foretold_42 : decode cX6_foretold 42 = .ok (.invokevirtual 154, 3) := by decide +kernel
theorem dX6_foretold_45 : decode cX6_foretold 45 = .ok (.dstore_n 3, 1) := by decide +kernel
theorem dX6_foretold_46 : decode cX6_foretold 46 = .ok (.iinc 5 1, 3) := by decide +kernel
theorem dX6_foretold_49 : decode cX6_foretold 49 = .ok (.goto (-15), 3) := by decide +kernel
theorem dX6_foretold_52 : decode cX6_foretold 52 = .ok (.dload_n 3, 1) := by decide +kernel
theorem dX6_foretold_53 : decode cX6_foretold 53 = .ok (.dreturn, 1) := by decide +kernel
theorem dX6_needed_0 : decode cX6_needed 0 = .ok (.aload_n 0, 1) := by decide +kernel
theorem dX6_needed_1 : decode cX6_needed 1 = .ok (.iload_n 1, 1) := by decide +kernel
theorem dX6_needed_2 : decode cX6_needed 2 = .ok (.invokevirtual 114, 3) := by decide +kernel
theorem dX6_needed_5 : decode cX6_needed 5 = .ok (.ifCond .eq 9, 3) := by decide +kernel
theorem dX6_needed_8 : decode cX6_needed 8 = .ok (.invokestatic 211, 3) := by decide +kernel
theorem dX6_needed_11 : decode cX6_needed 11 = .ok (.goto 8, 3) := by decide +kernel
theorem dX6_needed_14 : decode cX6_needed 14 = .ok (.aload_n 0, 1) := by decide +kernel
theorem dX6_needed_15 : decode cX6_needed 15 = .ok (.iload_n 1, 1) := by decide +kernel
theorem dX6_needed_16 : decode cX6_needed 16 = .ok (.invokevirtual 98, 3) := by decide +kernel
theorem dX6_needed_19 : decode cX6_needed 19 = .ok (.dreturn, 1) := by decide +kernel
theorem dX6_holds_0 : decode cX6_holds 0 = .ok (.aload_n 0, 1) := by decide +kernel
theorem dX6_holds_1 : decode cX6_holds 1 = .ok (.iload_n 1, 1) := by decide +kernel
theorem dX6_holds_2 : decode cX6_holds 2 = .ok (.invokevirtual 114, 3) := by decide +kernel
theorem dX6_holds_5 : decode cX6_holds 5 = .ok (.ifCond .ne 11, 3) := by decide +kernel
theorem dX6_holds_8 : decode cX6_holds 8 = .ok (.aload_n 0, 1) := by decide +kernel
theorem dX6_holds_9 : decode cX6_holds 9 = .ok (.iload_n 2, 1) := by decide +kernel
theorem dX6_holds_10 : decode cX6_holds 10 = .ok (.invokevirtual 208, 3) := by decide +kernel
theorem dX6_holds_13 : decode cX6_holds 13 = .ok (.ifCond .eq 7, 3) := by decide +kernel
theorem dX6_holds_16 : decode cX6_holds 16 = .ok (.iconst (-1), 1) := by decide +kernel
theorem dX6_holds_17 : decode cX6_holds 17 = .ok (.goto 17, 3) := by decide +kernel
theorem dX6_holds_20 : decode cX6_holds 20 = .ok (.aload_n 0, 1) := by decide +kernel
theorem dX6_holds_21 : decode cX6_holds 21 = .ok (.iload_n 1, 1) := by decide +kernel
theorem dX6_holds_22 : decode cX6_holds 22 = .ok (.iload_n 2, 1) := by decide +kernel
theorem dX6_holds_23 : decode cX6_holds 23 = .ok (.invokevirtual 102, 3) := by decide +kernel
theorem dX6_holds_26 : decode cX6_holds 26 = .ok (.ifCond .eq 7, 3) := by decide +kernel
theorem dX6_holds_29 : decode cX6_holds 29 = .ok (.iconst 1, 1) := by decide +kernel
theorem dX6_holds_30 : decode cX6_holds 30 = .ok (.goto 4, 3) := by decide +kernel
theorem dX6_holds_33 : decode cX6_holds 33 = .ok (.iconst 0, 1) := by decide +kernel
theorem dX6_holds_34 : decode cX6_holds 34 = .ok (.ireturn, 1) := by decide +kernel
theorem dX6_bestGuide_0 : decode cX6_bestGuide 0 = .ok (.aload_n 0, 1) := by decide +kernel
theorem dX6_bestGuide_1 : decode cX6_bestGuide 1 = .ok (.iload_n 1, 1) := by decide +kernel
theorem dX6_bestGuide_2 : decode cX6_bestGuide 2 = .ok (.invokevirtual 114, 3) := by decide +kernel
theorem dX6_bestGuide_5 : decode cX6_bestGuide 5 = .ok (.ifCond .eq 5, 3) := by decide +kernel
theorem dX6_bestGuide_8 : decode cX6_bestGuide 8 = .ok (.iconst (-1), 1) := by decide +kernel
theorem dX6_bestGuide_9 : decode cX6_bestGuide 9 = .ok (.ireturn, 1) := by decide +kernel
theorem dX6_bestGuide_10 : decode cX6_bestGuide 10 = .ok (.bipush (-5), 2) := by decide +kernel
theorem dX6_bestGuide_12 : decode cX6_bestGuide 12 = .ok (.istore_n 2, 1) := by decide +kernel
theorem dX6_bestGuide_13 : decode cX6_bestGuide 13 = .ok (.iconst 0, 1) := by decide +kernel
theorem dX6_bestGuide_14 : decode cX6_bestGuide 14 = .ok (.istore_n 3, 1) := by decide +kernel
theorem dX6_bestGuide_15 : decode cX6_bestGuide 15 = .ok (.iload_n 3, 1) := by decide +kernel
theorem dX6_bestGuide_16 : decode cX6_bestGuide 16 = .ok (.aload_n 0, 1) := by decide +kernel
theorem dX6_bestGuide_17 : decode cX6_bestGuide 17 = .ok (.getfield 7, 3) := by decide +kernel
theorem dX6_bestGuide_20 : decode cX6_bestGuide 20 = .ok (.iconst 1, 1) := by decide +kernel
theorem dX6_bestGuide_21 : decode cX6_bestGuide 21 = .ok (.iaload, 1) := by decide +kernel
theorem dX6_bestGuide_22 : decode cX6_bestGuide 22 = .ok (.if_icmp .ge 67, 3) := by decide +kernel
theorem dX6_bestGuide_25 : decode cX6_bestGuide 25 = .ok (.aload_n 0, 1) := by decide +kernel
theorem dX6_bestGuide_26 : decode cX6_bestGuide 26 = .ok (.iload_n 3, 1) := by decide +kernel
theorem dX6_bestGuide_27 : decode cX6_bestGuide 27 = .ok (.iload_n 1, 1) := by decide +kernel
theorem dX6_bestGuide_28 : decode cX6_bestGuide 28 = .ok (.invokevirtual 134, 3) := by decide +kernel
theorem dX6_bestGuide_31 : decode cX6_bestGuide 31 = .ok (.ifCond .eq 17, 3) := by decide +kernel
theorem dX6_bestGuide_34 : decode cX6_bestGuide 34 = .ok (.aload_n 0, 1) := by decide +kernel
theorem dX6_bestGuide_35 : decode cX6_bestGuide 35 = .ok (.iload_n 1, 1) := by decide +kernel
theorem dX6_bestGuide_36 : decode cX6_bestGuide 36 = .ok (.iconst 4, 1) := by decide +kernel
theorem dX6_bestGuide_37 : decode cX6_bestGuide 37 = .ok (.invokevirtual 41, 3) := by decide +kernel
theorem dX6_bestGuide_40 : decode cX6_bestGuide 40 = .ok (.iconst 4, 1) := by decide +kernel
theorem dX6_bestGuide_41 : decode cX6_bestGuide 41 = .ok (.if_icmp .ge 7, 3) := by decide +kernel
theorem dX6_bestGuide_44 : decode cX6_bestGuide 44 = .ok (.iconst 1, 1) := by decide +kernel
theorem dX6_bestGuide_45 : decode cX6_bestGuide 45 = .ok (.goto 4, 3) := by decide +kernel
theorem dX6_bestGuide_48 : decode cX6_bestGuide 48 = .ok (.iconst 0, 1) := by decide +kernel
theorem dX6_bestGuide_49 : decode cX6_bestGuide 49 = .ok (.istore 4, 2) := by decide +kernel
theorem dX6_bestGuide_51 : decode cX6_bestGuide 51 = .ok (.iload 4, 2) := by decide +kernel
theorem dX6_bestGuide_53 : decode cX6_bestGuide 53 = .ok (.ifCond .eq 28, 3) := by decide +kernel
theorem dX6_bestGuide_56 : decode cX6_bestGuide 56 = .ok (.iload_n 2, 1) := by decide +kernel
theorem dX6_bestGuide_57 : decode cX6_bestGuide 57 = .ok (.bipush (-5), 2) := by decide +kernel
theorem dX6_bestGuide_59 : decode cX6_bestGuide 59 = .ok (.if_icmp .eq 18, 3) := by decide +kernel
theorem dX6_bestGuide_62 : decode cX6_bestGuide 62 = .ok (.aload_n 0, 1) := by decide +kernel
theorem dX6_bestGuide_63 : decode cX6_bestGuide 63 = .ok (.iload_n 1, 1) := by decide +kernel
theorem dX6_bestGuide_64 : decode cX6_bestGuide 64 = .ok (.iload_n 3, 1) := by decide +kernel
theorem dX6_bestGuide_65 : decode cX6_bestGuide 65 = .ok (.invokevirtual 90, 3) := by decide +kernel
theorem dX6_bestGuide_68 : decode cX6_bestGuide 68 = .ok (.aload_n 0, 1) := by decide +kernel
theorem dX6_bestGuide_69 : decode cX6_bestGuide 69 = .ok (.iload_n 1, 1) := by decide +kernel
theorem dX6_bestGuide_70 : decode cX6_bestGuide 70 = .ok (.iload_n 2, 1) := by decide +kernel
theorem dX6_bestGuide_71 : decode cX6_bestGuide 71 = .ok (.invokevirtual 90, 3) := by decide +kernel
theorem dX6_bestGuide_74 : decode cX6_bestGuide 74 = .ok (.if_icmp .le 7, 3) := by decide +kernel
theorem dX6_bestGuide_77 : decode cX6_bestGuide 77 = .ok (.iload_n 3, 1) := by decide +kernel
theorem dX6_bestGuide_78 : decode cX6_bestGuide 78 = .ok (.goto 4, 3) := by decide +kernel
theorem dX6_bestGuide_81 : decode cX6_bestGuide 81 = .ok (.iload_n 2, 1) := by decide +kernel
theorem dX6_bestGuide_82 : decode cX6_bestGuide 82 = .ok (.istore_n 2, 1) := by decide +kernel
theorem dX6_bestGuide_83 : decode cX6_bestGuide 83 = .ok (.iinc 3 1, 3) := by decide +kernel
theorem dX6_bestGuide_86 : decode cX6_bestGuide 86 = .ok (.goto (-71), 3) := by decide +kernel
theorem dX6_bestGuide_89 : decode cX6_bestGuide 89 = .ok (.iload_n 2, 1) := by decide +kernel
theorem dX6_bestGuide_90 : decode cX6_bestGuide 90 = .ok (.ireturn, 1) := by decide +kernel
theorem dX6_takes_0 : decode cX6_takes 0 = .ok (.aload_n 0, 1) := by decide +kernel
theorem dX6_takes_1 : decode cX6_takes 1 = .ok (.iload_n 2, 1) := by decide +kernel
theorem dX6_takes_2 : decode cX6_takes 2 = .ok (.invokevirtual 52, 3) := by decide +kernel
theorem dX6_takes_5 : decode cX6_takes 5 = .ok (.ifCond .eq 5, 3) := by decide +kernel
theorem dX6_takes_8 : decode cX6_takes 8 = .ok (.iconst (-1), 1) := by decide +kernel
theorem dX6_takes_9 : decode cX6_takes 9 = .ok (.ireturn, 1) := by decide +kernel
theorem dX6_takes_10 : decode cX6_takes 10 = .ok (.iload_n 1, 1) := by decide +kernel
theorem dX6_takes_11 : decode cX6_takes 11 = .ok (.iconst 1, 1) := by decide +kernel
theorem dX6_takes_12 : decode cX6_takes 12 = .ok (.iconst 3, 1) := by decide +kernel
theorem dX6_takes_13 : decode cX6_takes 13 = .ok (.invokestatic 37, 3) := by decide +kernel
theorem dX6_takes_16 : decode cX6_takes 16 = .ok (.ifCond .ne 8, 3) := by decide +kernel
theorem dX6_takes_19 : decode cX6_takes 19 = .ok (.bipush (-2), 2) := by decide +kernel
theorem dX6_takes_21 : decode cX6_takes 21 = .ok (.goto 18, 3) := by decide +kernel
theorem dX6_takes_24 : decode cX6_takes 24 = .ok (.aload_n 0, 1) := by decide +kernel
theorem dX6_takes_25 : decode cX6_takes 25 = .ok (.iload_n 2, 1) := by decide +kernel
theorem dX6_takes_26 : decode cX6_takes 26 = .ok (.iconst 0, 1) := by decide +kernel
theorem dX6_takes_27 : decode cX6_takes 27 = .ok (.invokevirtual 56, 3) := by decide +kernel
theorem dX6_takes_30 : decode cX6_takes 30 = .ok (.iload_n 1, 1) := by decide +kernel
theorem dX6_takes_31 : decode cX6_takes 31 = .ok (.if_icmp .ne 7, 3) := by decide +kernel
theorem dX6_takes_34 : decode cX6_takes 34 = .ok (.iconst 1, 1) := by decide +kernel
theorem dX6_takes_35 : decode cX6_takes 35 = .ok (.goto 4, 3) := by decide +kernel
theorem dX6_takes_38 : decode cX6_takes 38 = .ok (.iconst 0, 1) := by decide +kernel
theorem dX6_takes_39 : decode cX6_takes 39 = .ok (.ireturn, 1) := by decide +kernel
theorem dX6_inState_0 : decode cX6_inState 0 = .ok (.iconst 0, 1) := by decide +kernel
theorem dX6_inState_1 : decode cX6_inState 1 = .ok (.istore_n 2, 1) := by decide +kernel
theorem dX6_inState_2 : decode cX6_inState 2 = .ok (.iconst 0, 1) := by decide +kernel
theorem dX6_inState_3 : decode cX6_inState 3 = .ok (.istore_n 3, 1) := by decide +kernel
theorem dX6_inState_4 : decode cX6_inState 4 = .ok (.iload_n 3, 1) := by decide +kernel
theorem dX6_inState_5 : decode cX6_inState 5 = .ok (.aload_n 0, 1) := by decide +kernel
theorem dX6_inState_6 : decode cX6_inState 6 = .ok (.getfield 7, 3) := by decide +kernel
theorem dX6_inState_9 : decode cX6_inState 9 = .ok (.iconst 3, 1) := by decide +kernel
theorem dX6_inState_10 : decode cX6_inState 10 = .ok (.iaload, 1) := by decide +kernel
theorem dX6_inState_11 : decode cX6_inState 11 = .ok (.if_icmp .ge 28, 3) := by decide +kernel
theorem dX6_inState_14 : decode cX6_inState 14 = .ok (.iload_n 2, 1) := by decide +kernel
theorem dX6_inState_15 : decode cX6_inState 15 = .ok (.aload_n 0, 1) := by decide +kernel
theorem dX6_inState_16 : decode cX6_inState 16 = .ok (.iload_n 3, 1) := by decide +kernel
theorem dX6_inState_17 : decode cX6_inState 17 = .ok (.bipush 6, 2) := by decide +kernel
theorem dX6_inState_19 : decode cX6_inState 19 = .ok (.invokevirtual 41, 3) := by decide +kernel
theorem dX6_inState_22 : decode cX6_inState 22 = .ok (.iload_n 1, 1) := by decide +kernel
theorem dX6_inState_23 : decode cX6_inState 23 = .ok (.if_icmp .ne 7, 3) := by decide +kernel
theorem dX6_inState_26 : decode cX6_inState 26 = .ok (.iconst 1, 1) := by decide +kernel
theorem dX6_inState_27 : decode cX6_inState 27 = .ok (.goto 4, 3) := by decide +kernel
theorem dX6_inState_30 : decode cX6_inState 30 = .ok (.iconst 0, 1) := by decide +kernel
theorem dX6_inState_31 : decode cX6_inState 31 = .ok (.iadd, 1) := by decide +kernel
theorem dX6_inState_32 : decode cX6_inState 32 = .ok (.istore_n 2, 1) := by decide +kernel
theorem dX6_inState_33 : decode cX6_inState 33 = .ok (.iinc 3 1, 3) := by decide +kernel
theorem dX6_inState_36 : decode cX6_inState 36 = .ok (.goto (-32), 3) := by decide +kernel
theorem dX6_inState_39 : decode cX6_inState 39 = .ok (.iload_n 2, 1) := by decide +kernel
theorem dX6_inState_40 : decode cX6_inState 40 = .ok (.ireturn, 1) := by decide +kernel
theorem dX6_paidAll_0 : decode cX6_paidAll 0 = .ok (.iconst 0, 1) := by decide +kernel
theorem dX6_paidAll_1 : decode cX6_paidAll 1 = .ok (.istore_n 1, 1) := by decide +kernel
theorem dX6_paidAll_2 : decode cX6_paidAll 2 = .ok (.iconst 0, 1) := by decide +kernel
theorem dX6_paidAll_3 : decode cX6_paidAll 3 = .ok (.istore_n 2, 1) := by decide +kernel
theorem dX6_paidAll_4 : decode cX6_paidAll 4 = .ok (.iload_n 2, 1) := by decide +kernel
theorem dX6_paidAll_5 : decode cX6_paidAll 5 = .ok (.aload_n 0, 1) := by decide +kernel
theorem dX6_paidAll_6 : decode cX6_paidAll 6 = .ok (.getfield 7, 3) := by decide +kernel
theorem dX6_paidAll_9 : decode cX6_paidAll 9 = .ok (.iconst 3, 1) := by decide +kernel
theorem dX6_paidAll_10 : decode cX6_paidAll 10 = .ok (.iaload, 1) := by decide +kernel
theorem dX6_paidAll_11 : decode cX6_paidAll 11 = .ok (.if_icmp .ge 18, 3) := by decide +kernel
theorem dX6_paidAll_14 : decode cX6_paidAll 14 = .ok (.iload_n 1, 1) := by decide +kernel
theorem dX6_paidAll_15 : decode cX6_paidAll 15 = .ok (.aload_n 0, 1) := by decide +kernel
theorem dX6_paidAll_16 : decode cX6_paidAll 16 = .ok (.iload_n 2, 1) := by decide +kernel
theorem dX6_paidAll_17 : decode cX6_paidAll 17 = .ok (.iconst 5, 1) := by decide +kernel
theorem dX6_paidAll_18 : decode cX6_paidAll 18 = .ok (.invokevirtual 41, 3) := by decide +kernel
theorem dX6_paidAll_21 : decode cX6_paidAll 21 = .ok (.iadd, 1) := by decide +kernel
theorem dX6_paidAll_22 : decode cX6_paidAll 22 = .ok (.istore_n 1, 1) := by decide +kernel
theorem dX6_paidAll_23 : decode cX6_paidAll 23 = .ok (.iinc 2 1, 3) := by decide +kernel
theorem dX6_paidAll_26 : decode cX6_paidAll 26 = .ok (.goto (-22), 3) := by decide +kernel
theorem dX6_paidAll_29 : decode cX6_paidAll 29 = .ok (.iload_n 1, 1) := by decide +kernel
theorem dX6_paidAll_30 : decode cX6_paidAll 30 = .ok (.ireturn, 1) := by decide +kernel
theorem dX6_goneGuests_0 : decode cX6_goneGuests 0 = .ok (.iconst 0, 1) := by decide +kernel
theorem dX6_goneGuests_1 : decode cX6_goneGuests 1 = .ok (.istore_n 1, 1) := by decide +kernel
theorem dX6_goneGuests_2 : decode cX6_goneGuests 2 = .ok (.iconst 0, 1) := by decide +kernel
theorem dX6_goneGuests_3 : decode cX6_goneGuests 3 = .ok (.istore_n 2, 1) := by decide +kernel
theorem dX6_goneGuests_4 : decode cX6_goneGuests 4 = .ok (.iload_n 2, 1) := by decide +kernel
theorem dX6_goneGuests_5 : decode cX6_goneGuests 5 = .ok (.aload_n 0, 1) := by decide +kernel
theorem dX6_goneGuests_6 : decode cX6_goneGuests 6 = .ok (.getfield 7, 3) := by decide +kernel
theorem dX6_goneGuests_9 : decode cX6_goneGuests 9 = .ok (.iconst 3, 1) := by decide +kernel
theorem dX6_goneGuests_10 : decode cX6_goneGuests 10 = .ok (.iaload, 1) := by decide +kernel
theorem dX6_goneGuests_11 : decode cX6_goneGuests 11 = .ok (.if_icmp .ge 33, 3) := by decide +kernel
theorem dX6_goneGuests_14 : decode cX6_goneGuests 14 = .ok (.iload_n 1, 1) := by decide +kernel
theorem dX6_goneGuests_15 : decode cX6_goneGuests 15 = .ok (.aload_n 0, 1) := by decide +kernel
theorem dX6_goneGuests_16 : decode cX6_goneGuests 16 = .ok (.iload_n 2, 1) := by decide +kernel
theorem dX6_goneGuests_17 : decode cX6_goneGuests 17 = .ok (.bipush 6, 2) := by decide +kernel
theorem dX6_goneGuests_19 : decode cX6_goneGuests 19 = .ok (.invokevirtual 41, 3) := by decide +kernel
theorem dX6_goneGuests_22 : decode cX6_goneGuests 22 = .ok (.iconst 1, 1) := by decide +kernel
theorem dX6_goneGuests_23 : decode cX6_goneGuests 23 = .ok (.if_icmp .ne 12, 3) := by decide +kernel
theorem dX6_goneGuests_26 : decode cX6_goneGuests 26 = .ok (.aload_n 0, 1) := by decide +kernel
theorem dX6_goneGuests_27 : decode cX6_goneGuests 27 = .ok (.iload_n 2, 1) := by decide +kernel
theorem dX6_goneGuests_28 : decode cX6_goneGuests 28 = .ok (.iconst 3, 1) := by decide +kernel
theorem dX6_goneGuests_29 : decode cX6_goneGuests 29 = .ok (.invokevirtual 41, 3) := by decide +kernel
theorem dX6_goneGuests_32 : decode cX6_goneGuests 32 = .ok (.goto 4, 3) := by decide +kernel
theorem dX6_goneGuests_35 : decode cX6_goneGuests 35 = .ok (.iconst 0, 1) := by decide +kernel
theorem dX6_goneGuests_36 : decode cX6_goneGuests 36 = .ok (.iadd, 1) := by decide +kernel
theorem dX6_goneGuests_37 : decode cX6_goneGuests 37 = .ok (.istore_n 1, 1) := by decide +kernel
theorem dX6_goneGuests_38 : decode cX6_goneGuests 38 = .ok (.iinc 2 1, 3) := by decide +kernel
theorem dX6_goneGuests_41 : decode cX6_goneGuests 41 = .ok (.goto (-37), 3) := by decide +kernel
theorem dX6_goneGuests_44 : decode cX6_goneGuests 44 = .ok (.iload_n 1, 1) := by decide +kernel
theorem dX6_goneGuests_45 : decode cX6_goneGuests 45 = .ok (.ireturn, 1) := by decide +kernel
theorem dX6_count_0 : decode cX6_count 0 = .ok (.iload_n 1, 1) := by decide +kernel
theorem dX6_count_1 : decode cX6_count 1 = .ok (.tableswitch 109 0 12 #[67, 67, 67, 67, 74, 74, 74, 74, 82, 87, 94, 99, 104], 67) := by decide +kernel
theorem dX6_count_68 : decode cX6_count 68 = .ok (.aload_n 0, 1) := by decide +kernel
theorem dX6_count_69 : decode cX6_count 69 = .ok (.getfield 7, 3) := by decide +kernel
theorem dX6_count_72 : decode cX6_count 72 = .ok (.iload_n 1, 1) := by decide +kernel
theorem dX6_count_73 : decode cX6_count 73 = .ok (.iaload, 1) := by decide +kernel
theorem dX6_count_74 : decode cX6_count 74 = .ok (.ireturn, 1) := by decide +kernel
theorem dX6_count_75 : decode cX6_count 75 = .ok (.aload_n 0, 1) := by decide +kernel
theorem dX6_count_76 : decode cX6_count 76 = .ok (.iload_n 1, 1) := by decide +kernel
theorem dX6_count_77 : decode cX6_count 77 = .ok (.iconst 4, 1) := by decide +kernel
theorem dX6_count_78 : decode cX6_count 78 = .ok (.isub, 1) := by decide +kernel
theorem dX6_count_79 : decode cX6_count 79 = .ok (.invokevirtual 215, 3) := by decide +kernel
theorem dX6_count_82 : decode cX6_count 82 = .ok (.ireturn, 1) := by decide +kernel
theorem dX6_count_83 : decode cX6_count 83 = .ok (.aload_n 0, 1) := by decide +kernel
theorem dX6_count_84 : decode cX6_count 84 = .ok (.invokevirtual 218, 3) := by decide +kernel
theorem dX6_count_87 : decode cX6_count 87 = .ok (.ireturn, 1) := by decide +kernel
theorem dX6_count_88 : decode cX6_count 88 = .ok (.aload_n 0, 1) := by decide +kernel
theorem dX6_count_89 : decode cX6_count 89 = .ok (.getfield 7, 3) := by decide +kernel
theorem dX6_count_92 : decode cX6_count 92 = .ok (.iconst 4, 1) := by decide +kernel
theorem dX6_count_93 : decode cX6_count 93 = .ok (.iaload, 1) := by decide +kernel
theorem dX6_count_94 : decode cX6_count 94 = .ok (.ireturn, 1) := by decide +kernel
theorem dX6_count_95 : decode cX6_count 95 = .ok (.aload_n 0, 1) := by decide +kernel
theorem dX6_count_96 : decode cX6_count 96 = .ok (.invokevirtual 221, 3) := by decide +kernel
theorem dX6_count_99 : decode cX6_count 99 = .ok (.ireturn, 1) := by decide +kernel
theorem dX6_count_100 : decode cX6_count 100 = .ok (.aload_n 0, 1) := by decide +kernel
theorem dX6_count_101 : decode cX6_count 101 = .ok (.getfield 33, 3) := by decide +kernel
theorem dX6_count_104 : decode cX6_count 104 = .ok (.ireturn, 1) := by decide +kernel
theorem dX6_count_105 : decode cX6_count 105 = .ok (.aload_n 0, 1) := by decide +kernel
theorem dX6_count_106 : decode cX6_count 106 = .ok (.getfield 162, 3) := by decide +kernel
theorem dX6_count_109 : decode cX6_count 109 = .ok (.ireturn, 1) := by decide +kernel
theorem dX6_count_110 : decode cX6_count 110 = .ok (.bipush (-2), 2) := by decide +kernel
theorem dX6_count_112 : decode cX6_count 112 = .ok (.ireturn, 1) := by decide +kernel
theorem dX6_temperature_0 : decode cX6_temperature 0 = .ok (.aload_n 0, 1) := by decide +kernel
theorem dX6_temperature_1 : decode cX6_temperature 1 = .ok (.getfield 19, 3) := by decide +kernel
theorem dX6_temperature_4 : decode cX6_temperature 4 = .ok (.iconst 0, 1) := by decide +kernel
theorem dX6_temperature_5 : decode cX6_temperature 5 = .ok (.daload, 1) := by decide +kernel
theorem dX6_temperature_6 : decode cX6_temperature 6 = .ok (.invokestatic 224, 3) := by decide +kernel
theorem dX6_temperature_9 : decode cX6_temperature 9 = .ok (.lreturn, 1) := by decide +kernel
theorem dJxe99ae_isNaN_b9ae7_0 : decode cJxe99ae_isNaN_b9ae7 0 = .ok (.dload_n 0, 1) := by decide +kernel
theorem dJxe99ae_isNaN_b9ae7_1 : decode cJxe99ae_isNaN_b9ae7 1 = .ok (.dload_n 0, 1) := by decide +kernel
theorem dJxe99ae_isNaN_b9ae7_2 : decode cJxe99ae_isNaN_b9ae7 2 = .ok (.dcmp .l, 1) := by decide +kernel
theorem dJxe99ae_isNaN_b9ae7_3 : decode cJxe99ae_isNaN_b9ae7 3 = .ok (.ifCond .eq 7, 3) := by decide +kernel
theorem dJxe99ae_isNaN_b9ae7_6 : decode cJxe99ae_isNaN_b9ae7 6 = .ok (.iconst 1, 1) := by decide +kernel
theorem dJxe99ae_isNaN_b9ae7_7 : decode cJxe99ae_isNaN_b9ae7 7 = .ok (.goto 4, 3) := by decide +kernel
theorem dJxe99ae_isNaN_b9ae7_10 : decode cJxe99ae_isNaN_b9ae7 10 = .ok (.iconst 0, 1) := by decide +kernel
theorem dJxe99ae_isNaN_b9ae7_11 : decode cJxe99ae_isNaN_b9ae7 11 = .ok (.ireturn, 1) := by decide +kernel
theorem dJxe99ae_doubleToLongBits_ccdee_0 : decode cJxe99ae_doubleToLongBits_ccdee 0 = .ok (.dload_n 0, 1) := by decide +kernel
theorem dJxe99ae_doubleToLongBits_ccdee_1 : decode cJxe99ae_doubleToLongBits_ccdee 1 = .ok (.invokestatic 122, 3) := by decide +kernel
theorem dJxe99ae_doubleToLongBits_ccdee_4 : decode cJxe99ae_doubleToLongBits_ccdee 4 = .ok (.ifCond .ne 8, 3) := by decide +kernel
theorem dJxe99ae_doubleToLongBits_ccdee_7 : decode cJxe99ae_doubleToLongBits_ccdee 7 = .ok (.dload_n 0, 1) := by decide +kernel
theorem dJxe99ae_doubleToLongBits_ccdee_8 : decode cJxe99ae_doubleToLongBits_ccdee 8 = .ok (.invokestatic 134, 3) := by decide +kernel
theorem dJxe99ae_doubleToLongBits_ccdee_11 : decode cJxe99ae_doubleToLongBits_ccdee 11 = .ok (.lreturn, 1) := by decide +kernel
theorem dJxe99ae_doubleToLongBits_ccdee_12 : decode cJxe99ae_doubleToLongBits_ccdee 12 = .ok (.ldc2_w 137, 3) := by decide +kernel
theorem dJxe99ae_doubleToLongBits_ccdee_15 : decode cJxe99ae_doubleToLongBits_ccdee 15 = .ok (.lreturn, 1) := by decide +kernel
theorem dJ0_length_8abf5_0 : decode cJ0_length_8abf5 0 = .ok (.aload_n 0, 1) := by decide +kernel
theorem dJ0_length_8abf5_1 : decode cJ0_length_8abf5 1 = .ok (.getfield 9, 3) := by decide +kernel
theorem dJ0_length_8abf5_4 : decode cJ0_length_8abf5 4 = .ok (.arraylength, 1) := by decide +kernel
theorem dJ0_length_8abf5_5 : decode cJ0_length_8abf5 5 = .ok (.aload_n 0, 1) := by decide +kernel
theorem dJ0_length_8abf5_6 : decode cJ0_length_8abf5 6 = .ok (.invokevirtual 335, 3) := by decide +kernel
theorem dJ0_length_8abf5_9 : decode cJ0_length_8abf5 9 = .ok (.ishr, 1) := by decide +kernel
theorem dJ0_length_8abf5_10 : decode cJ0_length_8abf5 10 = .ok (.ireturn, 1) := by decide +kernel
theorem dJ0_charAt_5068e_0 : decode cJ0_charAt_5068e 0 = .ok (.aload_n 0, 1) := by decide +kernel
theorem dJ0_charAt_5068e_1 : decode cJ0_charAt_5068e 1 = .ok (.invokevirtual 492, 3) := by decide +kernel
theorem dJ0_charAt_5068e_4 : decode cJ0_charAt_5068e 4 = .ok (.ifCond .eq 12, 3) := by decide +kernel
theorem dJ0_charAt_5068e_7 : decode cJ0_charAt_5068e 7 = .ok (.aload_n 0, 1) := by decide +kernel
theorem dJ0_charAt_5068e_8 : decode cJ0_charAt_5068e 8 = .ok (.getfield 9, 3) := by decide +kernel
theorem dJ0_charAt_5068e_11 : decode cJ0_charAt_5068e 11 = .ok (.iload_n 1, 1) := by decide +kernel
theorem dJ0_charAt_5068e_12 : decode cJ0_charAt_5068e 12 = .ok (.invokestatic 495, 3) := by decide +kernel
theorem dJ0_charAt_5068e_15 : decode cJ0_charAt_5068e 15 = .ok (.ireturn, 1) := by decide +kernel
theorem dJ0_charAt_5068e_16 : decode cJ0_charAt_5068e 16 = .ok (.aload_n 0, 1) := by decide +kernel
theorem dJ0_charAt_5068e_17 : decode cJ0_charAt_5068e 17 = .ok (.getfield 9, 3) := by decide +kernel
theorem dJ0_charAt_5068e_20 : decode cJ0_charAt_5068e 20 = .ok (.iload_n 1, 1) := by decide +kernel
theorem dJ0_charAt_5068e_21 : decode cJ0_charAt_5068e 21 = .ok (.invokestatic 498, 3) := by decide +kernel
theorem dJ0_charAt_5068e_24 : decode cJ0_charAt_5068e 24 = .ok (.ireturn, 1) := by decide +kernel
theorem dJ0_coder_7d493_0 : decode cJ0_coder_7d493 0 = .ok (.getstatic 38, 3) := by decide +kernel
theorem dJ0_coder_7d493_3 : decode cJ0_coder_7d493 3 = .ok (.ifCond .eq 10, 3) := by decide +kernel
theorem dJ0_coder_7d493_6 : decode cJ0_coder_7d493 6 = .ok (.aload_n 0, 1) := by decide +kernel
theorem dJ0_coder_7d493_7 : decode cJ0_coder_7d493 7 = .ok (.getfield 15, 3) := by decide +kernel
theorem dJ0_coder_7d493_10 : decode cJ0_coder_7d493 10 = .ok (.goto 4, 3) := by decide +kernel
theorem dJ0_coder_7d493_13 : decode cJ0_coder_7d493 13 = .ok (.iconst 1, 1) := by decide +kernel
theorem dJ0_coder_7d493_14 : decode cJ0_coder_7d493 14 = .ok (.ireturn, 1) := by decide +kernel
theorem dJ0_isLatin1_aae02_0 : decode cJ0_isLatin1_aae02 0 = .ok (.getstatic 38, 3) := by decide +kernel
theorem dJ0_isLatin1_aae02_3 : decode cJ0_isLatin1_aae02 3 = .ok (.ifCond .eq 14, 3) := by decide +kernel
theorem dJ0_isLatin1_aae02_6 : decode cJ0_isLatin1_aae02 6 = .ok (.aload_n 0, 1) := by decide +kernel
theorem dJ0_isLatin1_aae02_7 : decode cJ0_isLatin1_aae02 7 = .ok (.getfield 15, 3) := by decide +kernel
theorem dJ0_isLatin1_aae02_10 : decode cJ0_isLatin1_aae02 10 = .ok (.ifCond .ne 7, 3) := by decide +kernel
theorem dJ0_isLatin1_aae02_13 : decode cJ0_isLatin1_aae02 13 = .ok (.iconst 1, 1) := by decide +kernel
theorem dJ0_isLatin1_aae02_14 : decode cJ0_isLatin1_aae02 14 = .ok (.goto 4, 3) := by decide +kernel
theorem dJ0_isLatin1_aae02_17 : decode cJ0_isLatin1_aae02 17 = .ok (.iconst 0, 1) := by decide +kernel
theorem dJ0_isLatin1_aae02_18 : decode cJ0_isLatin1_aae02 18 = .ok (.ireturn, 1) := by decide +kernel
theorem dJ0_checkIndex_df160_0 : decode cJ0_checkIndex_df160 0 = .ok (.iload_n 0, 1) := by decide +kernel
theorem dJ0_checkIndex_df160_1 : decode cJ0_checkIndex_df160 1 = .ok (.iload_n 1, 1) := by decide +kernel
theorem dJ0_checkIndex_df160_2 : decode cJ0_checkIndex_df160 2 = .ok (.getstatic 1053, 3) := by decide +kernel
theorem dJ0_checkIndex_df160_5 : decode cJ0_checkIndex_df160 5 = .ok (.invokestatic 1059, 3) := by decide +kernel
theorem dJ0_checkIndex_df160_8 : decode cJ0_checkIndex_df160 8 = .ok (.pop, 1) := by decide +kernel
theorem dJ0_checkIndex_df160_9 : decode cJ0_checkIndex_df160 9 = .ok (.return_, 1) := by decide +kernel
theorem dJ1_charAt_3b067_0 : decode cJ1_charAt_3b067 0 = .ok (.iload_n 1, 1) := by decide +kernel
theorem dJ1_charAt_3b067_1 : decode cJ1_charAt_3b067 1 = .ok (.aload_n 0, 1) := by decide +kernel
theorem dJ1_charAt_3b067_2 : decode cJ1_charAt_3b067 2 = .ok (.arraylength, 1) := by decide +kernel
theorem dJ1_charAt_3b067_3 : decode cJ1_charAt_3b067 3 = .ok (.invokestatic 9, 3) := by decide +kernel
theorem dJ1_charAt_3b067_6 : decode cJ1_charAt_3b067 6 = .ok (.aload_n 0, 1) := by decide +kernel
theorem dJ1_charAt_3b067_7 : decode cJ1_charAt_3b067 7 = .ok (.iload_n 1, 1) := by decide +kernel
theorem dJ1_charAt_3b067_8 : decode cJ1_charAt_3b067 8 = .ok (.baload, 1) := by decide +kernel
theorem dJ1_charAt_3b067_9 : decode cJ1_charAt_3b067 9 = .ok (.sipush 255, 3) := by decide +kernel
theorem dJ1_charAt_3b067_12 : decode cJ1_charAt_3b067 12 = .ok (.iand, 1) := by decide +kernel
theorem dJ1_charAt_3b067_13 : decode cJ1_charAt_3b067 13 = .ok (.i2c, 1) := by decide +kernel
theorem dJ1_charAt_3b067_14 : decode cJ1_charAt_3b067 14 = .ok (.ireturn, 1) := by decide +kernel
theorem dJ2_getChar_3b067_0 : decode cJ2_getChar_3b067 0 = .ok (.getstatic 44, 3) := by decide +kernel
theorem dJ2_getChar_3b067_3 : decode cJ2_getChar_3b067 3 = .ok (.ifCond .ne 25, 3) := by decide +kernel
theorem dJ2_getChar_3b067_6 : decode cJ2_getChar_3b067 6 = .ok (.iload_n 1, 1) := by decide +kernel
theorem dJ2_getChar_3b067_7 : decode cJ2_getChar_3b067 7 = .ok (.ifCond .lt 11, 3) := by decide +kernel
theorem dJ2_getChar_3b067_10 : decode cJ2_getChar_3b067 10 = .ok (.iload_n 1, 1) := by decide +kernel
theorem dJ2_getChar_3b067_11 : decode cJ2_getChar_3b067 11 = .ok (.aload_n 0, 1) := by decide +kernel
theorem dJ2_getChar_3b067_12 : decode cJ2_getChar_3b067 12 = .ok (.invokestatic 48, 3) := by decide +kernel
theorem dJ2_getChar_3b067_15 : decode cJ2_getChar_3b067 15 = .ok (.if_icmp .lt 13, 3) := by decide +kernel
theorem dJ2_getChar_3b067_18 : decode cJ2_getChar_3b067 18 = .ok (.new 52, 3) := by decide +kernel
theorem dJ2_getChar_3b067_21 : decode cJ2_getChar_3b067 21 = .ok (.dup, 1) := by decide +kernel
theorem dJ2_getChar_3b067_22 : decode cJ2_getChar_3b067 22 = .ok (.ldc 54, 2) := by decide +kernel
theorem dJ2_getChar_3b067_24 : decode cJ2_getChar_3b067 24 = .ok (.invokespecial 56, 3) := by decide +kernel
theorem dJ2_getChar_3b067_27 : decode cJ2_getChar_3b067 27 = .ok (.athrow, 1) := by decide +kernel
theorem dJ2_getChar_3b067_28 : decode cJ2_getChar_3b067 28 = .ok (.iload_n 1, 1) := by decide +kernel
theorem dJ2_getChar_3b067_29 : decode cJ2_getChar_3b067 29 = .ok (.iconst 1, 1) := by decide +kernel
theorem dJ2_getChar_3b067_30 : decode cJ2_getChar_3b067 30 = .ok (.ishl, 1) := by decide +kernel
theorem dJ2_getChar_3b067_31 : decode cJ2_getChar_3b067 31 = .ok (.istore_n 1, 1) := by decide +kernel
theorem dJ2_getChar_3b067_32 : decode cJ2_getChar_3b067 32 = .ok (.aload_n 0, 1) := by decide +kernel
theorem dJ2_getChar_3b067_33 : decode cJ2_getChar_3b067 33 = .ok (.iload_n 1, 1) := by decide +kernel
theorem dJ2_getChar_3b067_34 : decode cJ2_getChar_3b067 34 = .ok (.iinc 1 1, 3) := by decide +kernel
theorem dJ2_getChar_3b067_37 : decode cJ2_getChar_3b067 37 = .ok (.baload, 1) := by decide +kernel
theorem dJ2_getChar_3b067_38 : decode cJ2_getChar_3b067 38 = .ok (.sipush 255, 3) := by decide +kernel
theorem dJ2_getChar_3b067_41 : decode cJ2_getChar_3b067 41 = .ok (.iand, 1) := by decide +kernel
theorem dJ2_getChar_3b067_42 : decode cJ2_getChar_3b067 42 = .ok (.getstatic 59, 3) := by decide +kernel
theorem dJ2_getChar_3b067_45 : decode cJ2_getChar_3b067 45 = .ok (.ishl, 1) := by decide +kernel
theorem dJ2_getChar_3b067_46 : decode cJ2_getChar_3b067 46 = .ok (.aload_n 0, 1) := by decide +kernel
theorem dJ2_getChar_3b067_47 : decode cJ2_getChar_3b067 47 = .ok (.iload_n 1, 1) := by decide +kernel
theorem dJ2_getChar_3b067_48 : decode cJ2_getChar_3b067 48 = .ok (.baload, 1) := by decide +kernel
theorem dJ2_getChar_3b067_49 : decode cJ2_getChar_3b067 49 = .ok (.sipush 255, 3) := by decide +kernel
theorem dJ2_getChar_3b067_52 : decode cJ2_getChar_3b067 52 = .ok (.iand, 1) := by decide +kernel
theorem dJ2_getChar_3b067_53 : decode cJ2_getChar_3b067 53 = .ok (.getstatic 63, 3) := by decide +kernel
theorem dJ2_getChar_3b067_56 : decode cJ2_getChar_3b067 56 = .ok (.ishl, 1) := by decide +kernel
theorem dJ2_getChar_3b067_57 : decode cJ2_getChar_3b067 57 = .ok (.ior, 1) := by decide +kernel
theorem dJ2_getChar_3b067_58 : decode cJ2_getChar_3b067 58 = .ok (.i2c, 1) := by decide +kernel
theorem dJ2_getChar_3b067_59 : decode cJ2_getChar_3b067 59 = .ok (.ireturn, 1) := by decide +kernel
theorem dJ2_length_9d52b_0 : decode cJ2_length_9d52b 0 = .ok (.aload_n 0, 1) := by decide +kernel
theorem dJ2_length_9d52b_1 : decode cJ2_length_9d52b 1 = .ok (.arraylength, 1) := by decide +kernel
theorem dJ2_length_9d52b_2 : decode cJ2_length_9d52b 2 = .ok (.iconst 1, 1) := by decide +kernel
theorem dJ2_length_9d52b_3 : decode cJ2_length_9d52b 3 = .ok (.ishr, 1) := by decide +kernel
theorem dJ2_length_9d52b_4 : decode cJ2_length_9d52b 4 = .ok (.ireturn, 1) := by decide +kernel
theorem dJ2_charAt_3b067_0 : decode cJ2_charAt_3b067 0 = .ok (.iload_n 1, 1) := by decide +kernel
theorem dJ2_charAt_3b067_1 : decode cJ2_charAt_3b067 1 = .ok (.aload_n 0, 1) := by decide +kernel
theorem dJ2_charAt_3b067_2 : decode cJ2_charAt_3b067 2 = .ok (.invokestatic 67, 3) := by decide +kernel
theorem dJ2_charAt_3b067_5 : decode cJ2_charAt_3b067 5 = .ok (.aload_n 0, 1) := by decide +kernel
theorem dJ2_charAt_3b067_6 : decode cJ2_charAt_3b067 6 = .ok (.iload_n 1, 1) := by decide +kernel
theorem dJ2_charAt_3b067_7 : decode cJ2_charAt_3b067 7 = .ok (.invokestatic 71, 3) := by decide +kernel
theorem dJ2_charAt_3b067_10 : decode cJ2_charAt_3b067 10 = .ok (.ireturn, 1) := by decide +kernel
theorem dJ2_checkIndex_2214a_0 : decode cJ2_checkIndex_2214a 0 = .ok (.iload_n 0, 1) := by decide +kernel
theorem dJ2_checkIndex_2214a_1 : decode cJ2_checkIndex_2214a 1 = .ok (.aload_n 1, 1) := by decide +kernel
theorem dJ2_checkIndex_2214a_2 : decode cJ2_checkIndex_2214a 2 = .ok (.invokestatic 48, 3) := by decide +kernel
theorem dJ2_checkIndex_2214a_5 : decode cJ2_checkIndex_2214a 5 = .ok (.invokestatic 414, 3) := by decide +kernel
theorem dJ2_checkIndex_2214a_8 : decode cJ2_checkIndex_2214a 8 = .ok (.return_, 1) := by decide +kernel
theorem dJ3_checkIndex_8e157_0 : decode cJ3_checkIndex_8e157 0 = .ok (.iload_n 0, 1) := by decide +kernel
theorem dJ3_checkIndex_8e157_1 : decode cJ3_checkIndex_8e157 1 = .ok (.ifCond .lt 8, 3) := by decide +kernel
theorem dJ3_checkIndex_8e157_4 : decode cJ3_checkIndex_8e157 4 = .ok (.iload_n 0, 1) := by decide +kernel
theorem dJ3_checkIndex_8e157_5 : decode cJ3_checkIndex_8e157 5 = .ok (.iload_n 1, 1) := by decide +kernel
theorem dJ3_checkIndex_8e157_6 : decode cJ3_checkIndex_8e157 6 = .ok (.if_icmp .lt 10, 3) := by decide +kernel
theorem dJ3_checkIndex_8e157_9 : decode cJ3_checkIndex_8e157 9 = .ok (.aload_n 2, 1) := by decide +kernel
theorem dJ3_checkIndex_8e157_10 : decode cJ3_checkIndex_8e157 10 = .ok (.iload_n 0, 1) := by decide +kernel
theorem dJ3_checkIndex_8e157_11 : decode cJ3_checkIndex_8e157 11 = .ok (.iload_n 1, 1) := by decide +kernel
theorem dJ3_checkIndex_8e157_12 : decode cJ3_checkIndex_8e157 12 = .ok (.invokestatic 95, 3) := by decide +kernel
theorem dJ3_checkIndex_8e157_15 : decode cJ3_checkIndex_8e157 15 = .ok (.athrow, 1) := by decide +kernel
theorem dJ3_checkIndex_8e157_16 : decode cJ3_checkIndex_8e157 16 = .ok (.iload_n 0, 1) := by decide +kernel
theorem dJ3_checkIndex_8e157_17 : decode cJ3_checkIndex_8e157 17 = .ok (.ireturn, 1) := by decide +kernel
theorem dL_law_0 : decode cL_law 0 = .ok (.new 7, 3) := by decide +kernel
theorem dL_law_3 : decode cL_law 3 = .ok (.dup, 1) := by decide +kernel
theorem dL_law_4 : decode cL_law 4 = .ok (.invokespecial 9, 3) := by decide +kernel
theorem dL_law_7 : decode cL_law 7 = .ok (.astore_n 1, 1) := by decide +kernel
theorem dL_law_8 : decode cL_law 8 = .ok (.new 10, 3) := by decide +kernel
theorem dL_law_11 : decode cL_law 11 = .ok (.dup, 1) := by decide +kernel
theorem dL_law_12 : decode cL_law 12 = .ok (.invokespecial 12, 3) := by decide +kernel
theorem dL_law_15 : decode cL_law 15 = .ok (.astore_n 2, 1) := by decide +kernel
theorem dL_law_16 : decode cL_law 16 = .ok (.iconst 0, 1) := by decide +kernel
theorem dL_law_17 : decode cL_law 17 = .ok (.istore_n 3, 1) := by decide +kernel
theorem dL_law_18 : decode cL_law 18 = .ok (.iload_n 3, 1) := by decide +kernel
theorem dL_law_19 : decode cL_law 19 = .ok (.aload_n 0, 1) := by decide +kernel
theorem dL_law_20 : decode cL_law 20 = .ok (.arraylength, 1) := by decide +kernel
theorem dL_law_21 : decode cL_law 21 = .ok (.bipush 6, 2) := by decide +kernel
theorem dL_law_23 : decode cL_law 23 = .ok (.isub, 1) := by decide +kernel
theorem dL_law_24 : decode cL_law 24 = .ok (.if_icmp .gt 1110, 3) := by decide +kernel
theorem dL_law_27 : decode cL_law 27 = .ok (.aload_n 0, 1) := by decide +kernel
theorem dL_law_28 : decode cL_law 28 = .ok (.iload_n 3, 1) := by decide +kernel
theorem dL_law_29 : decode cL_law 29 = .ok (.iaload, 1) := by decide +kernel
theorem dL_law_30 : decode cL_law 30 = .ok (.bipush 31, 2) := by decide +kernel
theorem dL_law_32 : decode cL_law 32 = .ok (.iand, 1) := by decide +kernel
theorem dL_law_33 : decode cL_law 33 = .ok (.tableswitch 1095 0 28 #[131, 164, 207, 260, 313, 396, 429, 462, 495, 528, 561, 584, 607, 632, 645, 658, 671, 684, 697, 730, 763, 806, 857, 918, 969, 1002, 1025, 1058, 1081], 131) := by decide +kernel
theorem dL_law_164 : decode cL_law 164 = .ok (.aload_n 1, 1) := by decide +kernel
theorem dL_law_165 : decode cL_law 165 = .ok (.aload_n 0, 1) := by decide +kernel
theorem dL_law_166 : decode cL_law 166 = .ok (.iload_n 3, 1) := by decide +kernel
theorem dL_law_167 : decode cL_law 167 = .ok (.iconst 1, 1) := by decide +kernel
theorem dL_law_168 : decode cL_law 168 = .ok (.iadd, 1) := by decide +kernel
theorem dL_law_169 : decode cL_law 169 = .ok (.iaload, 1) := by decide +kernel
theorem dL_law_170 : decode cL_law 170 = .ok (.aload_n 0, 1) := by decide +kernel
theorem dL_law_171 : decode cL_law 171 = .ok (.iload_n 3, 1) := by decide +kernel
theorem dL_law_172 : decode cL_law 172 = .ok (.iconst 2, 1) := by decide +kernel
theorem dL_law_173 : decode cL_law 173 = .ok (.iadd, 1) := by decide +kernel
theorem dL_law_174 : decode cL_law 174 = .ok (.iaload, 1) := by decide +kernel
theorem dL_law_175 : decode cL_law 175 = .ok (.invokevirtual 13, 3) := by decide +kernel
theorem dL_law_178 : decode cL_law 178 = .ok (.aload_n 2, 1) := by decide +kernel
theorem dL_law_179 : decode cL_law 179 = .ok (.aload_n 0, 1) := by decide +kernel
theorem dL_law_180 : decode cL_law 180 = .ok (.iload_n 3, 1) := by decide +kernel
theorem dL_law_181 : decode cL_law 181 = .ok (.iconst 1, 1) := by decide +kernel
theorem dL_law_182 : decode cL_law 182 = .ok (.iadd, 1) := by decide +kernel
theorem dL_law_183 : decode cL_law 183 = .ok (.iaload, 1) := by decide +kernel
theorem dL_law_184 : decode cL_law 184 = .ok (.aload_n 0, 1) := by decide +kernel
theorem dL_law_185 : decode cL_law 185 = .ok (.iload_n 3, 1) := by decide +kernel
theorem dL_law_186 : decode cL_law 186 = .ok (.iconst 2, 1) := by decide +kernel
theorem dL_law_187 : decode cL_law 187 = .ok (.iadd, 1) := by decide +kernel
theorem dL_law_188 : decode cL_law 188 = .ok (.iaload, 1) := by decide +kernel
theorem dL_law_189 : decode cL_law 189 = .ok (.invokevirtual 17, 3) := by decide +kernel
theorem dL_law_192 : decode cL_law 192 = .ok (.if_icmp .eq 936, 3) := by decide +kernel
theorem dL_law_195 : decode cL_law 195 = .ok (.iconst 0, 1) := by decide +kernel
theorem dL_law_196 : decode cL_law 196 = .ok (.ireturn, 1) := by decide +kernel
theorem dL_law_197 : decode cL_law 197 = .ok (.aload_n 1, 1) := by decide +kernel
theorem dL_law_198 : decode cL_law 198 = .ok (.aload_n 0, 1) := by decide +kernel
theorem dL_law_199 : decode cL_law 199 = .ok (.iload_n 3, 1) := by decide +kernel
theorem dL_law_200 : decode cL_law 200 = .ok (.iconst 1, 1) := by decide +kernel
theorem dL_law_201 : decode cL_law 201 = .ok (.iadd, 1) := by decide +kernel
theorem dL_law_202 : decode cL_law 202 = .ok (.iaload, 1) := by decide +kernel
theorem dL_law_203 : decode cL_law 203 = .ok (.aload_n 0, 1) := by decide +kernel
theorem dL_law_204 : decode cL_law 204 = .ok (.iload_n 3, 1) := by decide +kernel
theorem dL_law_205 : decode cL_law 205 = .ok (.iconst 2, 1) := by decide +kernel
theorem dL_law_206 : decode cL_law 206 = .ok (.iadd, 1) := by decide +kernel
theorem dL_law_207 : decode cL_law 207 = .ok (.iaload, 1) := by decide +kernel
theorem dL_law_208 : decode cL_law 208 = .ok (.aload_n 0, 1) := by decide +kernel
theorem dL_law_209 : decode cL_law 209 = .ok (.iload_n 3, 1) := by decide +kernel
theorem dL_law_210 : decode cL_law 210 = .ok (.iconst 3, 1) := by decide +kernel
theorem dL_law_211 : decode cL_law 211 = .ok (.iadd, 1) := by decide +kernel
theorem dL_law_212 : decode cL_law 212 = .ok (.iaload, 1) := by decide +kernel
theorem dL_law_213 : decode cL_law 213 = .ok (.invokevirtual 18, 3) := by decide +kernel
theorem dL_law_216 : decode cL_law 216 = .ok (.aload_n 2, 1) := by decide +kernel
theorem dL_law_217 : decode cL_law 217 = .ok (.aload_n 0, 1) := by decide +kernel
theorem dL_law_218 : decode cL_law 218 = .ok (.iload_n 3, 1) := by decide +kernel
theorem dL_law_219 : decode cL_law 219 = .ok (.iconst 1, 1) := by decide +kernel
theorem dL_law_220 : decode cL_law 220 = .ok (.iadd, 1) := by decide +kernel
theorem dL_law_221 : decode cL_law 221 = .ok (.iaload, 1) := by decide +kernel
theorem dL_law_222 : decode cL_law 222 = .ok (.aload_n 0, 1) := by decide +kernel
theorem dL_law_223 : decode cL_law 223 = .ok (.iload_n 3, 1) := by decide +kernel
theorem dL_law_224 : decode cL_law 224 = .ok (.iconst 2, 1) := by decide +kernel
theorem dL_law_225 : decode cL_law 225 = .ok (.iadd, 1) := by decide +kernel
theorem dL_law_226 : decode cL_law 226 = .ok (.iaload, 1) := by decide +kernel
theorem dL_law_227 : decode cL_law 227 = .ok (.aload_n 0, 1) := by decide +kernel
theorem dL_law_228 : decode cL_law 228 = .ok (.iload_n 3, 1) := by decide +kernel
theorem dL_law_229 : decode cL_law 229 = .ok (.iconst 3, 1) := by decide +kernel
theorem dL_law_230 : decode cL_law 230 = .ok (.iadd, 1) := by decide +kernel
theorem dL_law_231 : decode cL_law 231 = .ok (.iaload, 1) := by decide +kernel
theorem dL_law_232 : decode cL_law 232 = .ok (.invokevirtual 22, 3) := by decide +kernel
theorem dL_law_235 : decode cL_law 235 = .ok (.if_icmp .eq 893, 3) := by decide +kernel
theorem dL_law_238 : decode cL_law 238 = .ok (.iconst 0, 1) := by decide +kernel
theorem dL_law_239 : decode cL_law 239 = .ok (.ireturn, 1) := by decide +kernel
theorem dL_law_240 : decode cL_law 240 = .ok (.aload_n 1, 1) := by decide +kernel
theorem dL_law_241 : decode cL_law 241 = .ok (.aload_n 0, 1) := by decide +kernel
theorem dL_law_242 : decode cL_law 242 = .ok (.iload_n 3, 1) := by decide +kernel
theorem dL_law_243 : decode cL_law 243 = .ok (.iconst 1, 1) := by decide +kernel
theorem dL_law_244 : decode cL_law 244 = .ok (.iadd, 1) := by decide +kernel
theorem dL_law_245 : decode cL_law 245 = .ok (.iaload, 1) := by decide +kernel
theorem dL_law_246 : decode cL_law 246 = .ok (.i2l, 1) := by decide +kernel
theorem dL_law_247 : decode cL_law 247 = .ok (.bipush 32, 2) := by decide +kernel
theorem dL_law_249 : decode cL_law 249 = .ok (.lshl, 1) := by decide +kernel
theorem dL_law_250 : decode cL_law 250 = .ok (.aload_n 0, 1) := by decide +kernel
theorem dL_law_251 : decode cL_law 251 = .ok (.iload_n 3, 1) := by decide +kernel
theorem dL_law_252 : decode cL_law 252 = .ok (.iconst 2, 1) := by decide +kernel
theorem dL_law_253 : decode cL_law 253 = .ok (.iadd, 1) := by decide +kernel
theorem dL_law_254 : decode cL_law 254 = .ok (.iaload, 1) := by decide +kernel
theorem dL_law_255 : decode cL_law 255 = .ok (.i2l, 1) := by decide +kernel
theorem dL_law_256 : decode cL_law 256 = .ok (.ldc2_w 23, 3) := by decide +kernel
theorem dL_law_259 : decode cL_law 259 = .ok (.land, 1) := by decide +kernel
theorem dL_law_260 : decode cL_law 260 = .ok (.lor, 1) := by decide +kernel
theorem dL_law_261 : decode cL_law 261 = .ok (.invokevirtual 25, 3) := by decide +kernel
theorem dL_law_264 : decode cL_law 264 = .ok (.aload_n 2, 1) := by decide +kernel
theorem dL_law_265 : decode cL_law 265 = .ok (.aload_n 0, 1) := by decide +kernel
theorem dL_law_266 : decode cL_law 266 = .ok (.iload_n 3, 1) := by decide +kernel
theorem dL_law_267 : decode cL_law 267 = .ok (.iconst 1, 1) := by decide +kernel
theorem dL_law_268 : decode cL_law 268 = .ok (.iadd, 1) := by decide +kernel
theorem dL_law_269 : decode cL_law 269 = .ok (.iaload, 1) := by decide +kernel
theorem dL_law_270 : decode cL_law 270 = .ok (.i2l, 1) := by decide +kernel
theorem dL_law_271 : decode cL_law 271 = .ok (.bipush 32, 2) := by decide +kernel
theorem dL_law_273 : decode cL_law 273 = .ok (.lshl, 1) := by decide +kernel
theorem dL_law_274 : decode cL_law 274 = .ok (.aload_n 0, 1) := by decide +kernel
theorem dL_law_275 : decode cL_law 275 = .ok (.iload_n 3, 1) := by decide +kernel
theorem dL_law_276 : decode cL_law 276 = .ok (.iconst 2, 1) := by decide +kernel
theorem dL_law_277 : decode cL_law 277 = .ok (.iadd, 1) := by decide +kernel
theorem dL_law_278 : decode cL_law 278 = .ok (.iaload, 1) := by decide +kernel
theorem dL_law_279 : decode cL_law 279 = .ok (.i2l, 1) := by decide +kernel
theorem dL_law_280 : decode cL_law 280 = .ok (.ldc2_w 23, 3) := by decide +kernel
theorem dL_law_283 : decode cL_law 283 = .ok (.land, 1) := by decide +kernel
theorem dL_law_284 : decode cL_law 284 = .ok (.lor, 1) := by decide +kernel
theorem dL_law_285 : decode cL_law 285 = .ok (.invokevirtual 29, 3) := by decide +kernel
theorem dL_law_288 : decode cL_law 288 = .ok (.if_icmp .eq 840, 3) := by decide +kernel
theorem dL_law_291 : decode cL_law 291 = .ok (.iconst 0, 1) := by decide +kernel
theorem dL_law_292 : decode cL_law 292 = .ok (.ireturn, 1) := by decide +kernel
theorem dL_law_293 : decode cL_law 293 = .ok (.aload_n 1, 1) := by decide +kernel
theorem dL_law_294 : decode cL_law 294 = .ok (.aload_n 0, 1) := by decide +kernel
theorem dL_law_295 : decode cL_law 295 = .ok (.iload_n 3, 1) := by decide +kernel
theorem dL_law_296 : decode cL_law 296 = .ok (.iconst 1, 1) := by decide +kernel
theorem dL_law_297 : decode cL_law 297 = .ok (.iadd, 1) := by decide +kernel
theorem dL_law_298 : decode cL_law 298 = .ok (.iaload, 1) := by decide +kernel
theorem dL_law_299 : decode cL_law 299 = .ok (.i2l, 1) := by decide +kernel
theorem dL_law_300 : decode cL_law 300 = .ok (.bipush 32, 2) := by decide +kernel
theorem dL_law_302 : decode cL_law 302 = .ok (.lshl, 1) := by decide +kernel
theorem dL_law_303 : decode cL_law 303 = .ok (.aload_n 0, 1) := by decide +kernel
theorem dL_law_304 : decode cL_law 304 = .ok (.iload_n 3, 1) := by decide +kernel
theorem dL_law_305 : decode cL_law 305 = .ok (.iconst 2, 1) := by decide +kernel
theorem dL_law_306 : decode cL_law 306 = .ok (.iadd, 1) := by decide +kernel
theorem dL_law_307 : decode cL_law 307 = .ok (.iaload, 1) := by decide +kernel
theorem dL_law_308 : decode cL_law 308 = .ok (.i2l, 1) := by decide +kernel
theorem dL_law_309 : decode cL_law 309 = .ok (.ldc2_w 23, 3) := by decide +kernel
theorem dL_law_312 : decode cL_law 312 = .ok (.land, 1) := by decide +kernel
theorem dL_law_313 : decode cL_law 313 = .ok (.lor, 1) := by decide +kernel
theorem dL_law_314 : decode cL_law 314 = .ok (.invokevirtual 30, 3) := by decide +kernel
theorem dL_law_317 : decode cL_law 317 = .ok (.aload_n 2, 1) := by decide +kernel
theorem dL_law_318 : decode cL_law 318 = .ok (.aload_n 0, 1) := by decide +kernel
theorem dL_law_319 : decode cL_law 319 = .ok (.iload_n 3, 1) := by decide +kernel
theorem dL_law_320 : decode cL_law 320 = .ok (.iconst 1, 1) := by decide +kernel
theorem dL_law_321 : decode cL_law 321 = .ok (.iadd, 1) := by decide +kernel
theorem dL_law_322 : decode cL_law 322 = .ok (.iaload, 1) := by decide +kernel
theorem dL_law_323 : decode cL_law 323 = .ok (.i2l, 1) := by decide +kernel
theorem dL_law_324 : decode cL_law 324 = .ok (.bipush 32, 2) := by decide +kernel
theorem dL_law_326 : decode cL_law 326 = .ok (.lshl, 1) := by decide +kernel
theorem dL_law_327 : decode cL_law 327 = .ok (.aload_n 0, 1) := by decide +kernel
theorem dL_law_328 : decode cL_law 328 = .ok (.iload_n 3, 1) := by decide +kernel
theorem dL_law_329 : decode cL_law 329 = .ok (.iconst 2, 1) := by decide +kernel
theorem dL_law_330 : decode cL_law 330 = .ok (.iadd, 1) := by decide +kernel
theorem dL_law_331 : decode cL_law 331 = .ok (.iaload, 1) := by decide +kernel
theorem dL_law_332 : decode cL_law 332 = .ok (.i2l, 1) := by decide +kernel
theorem dL_law_333 : decode cL_law 333 = .ok (.ldc2_w 23, 3) := by decide +kernel
theorem dL_law_336 : decode cL_law 336 = .ok (.land, 1) := by decide +kernel
theorem dL_law_337 : decode cL_law 337 = .ok (.lor, 1) := by decide +kernel
theorem dL_law_338 : decode cL_law 338 = .ok (.invokevirtual 33, 3) := by decide +kernel
theorem dL_law_341 : decode cL_law 341 = .ok (.if_icmp .eq 787, 3) := by decide +kernel
theorem dL_law_344 : decode cL_law 344 = .ok (.iconst 0, 1) := by decide +kernel
theorem dL_law_345 : decode cL_law 345 = .ok (.ireturn, 1) := by decide +kernel
theorem dL_law_346 : decode cL_law 346 = .ok (.aload_n 1, 1) := by decide +kernel
theorem dL_law_347 : decode cL_law 347 = .ok (.aload_n 0, 1) := by decide +kernel
theorem dL_law_348 : decode cL_law 348 = .ok (.iload_n 3, 1) := by decide +kernel
theorem dL_law_349 : decode cL_law 349 = .ok (.iconst 1, 1) := by decide +kernel
theorem dL_law_350 : decode cL_law 350 = .ok (.iadd, 1) := by decide +kernel
theorem dL_law_351 : decode cL_law 351 = .ok (.iaload, 1) := by decide +kernel
theorem dL_law_352 : decode cL_law 352 = .ok (.aload_n 0, 1) := by decide +kernel
theorem dL_law_353 : decode cL_law 353 = .ok (.iload_n 3, 1) := by decide +kernel
theorem dL_law_354 : decode cL_law 354 = .ok (.iconst 2, 1) := by decide +kernel
theorem dL_law_355 : decode cL_law 355 = .ok (.iadd, 1) := by decide +kernel
theorem dL_law_356 : decode cL_law 356 = .ok (.iaload, 1) := by decide +kernel
theorem dL_law_357 : decode cL_law 357 = .ok (.i2l, 1) := by decide +kernel
theorem dL_law_358 : decode cL_law 358 = .ok (.bipush 32, 2) := by decide +kernel
theorem dL_law_360 : decode cL_law 360 = .ok (.lshl, 1) := by decide +kernel
theorem dL_law_361 : decode cL_law 361 = .ok (.aload_n 0, 1) := by decide +kernel
theorem dL_law_362 : decode cL_law 362 = .ok (.iload_n 3, 1) := by decide +kernel
theorem dL_law_363 : decode cL_law 363 = .ok (.iconst 3, 1) := by decide +kernel
theorem dL_law_364 : decode cL_law 364 = .ok (.iadd, 1) := by decide +kernel
theorem dL_law_365 : decode cL_law 365 = .ok (.iaload, 1) := by decide +kernel
theorem dL_law_366 : decode cL_law 366 = .ok (.i2l, 1) := by decide +kernel
theorem dL_law_367 : decode cL_law 367 = .ok (.ldc2_w 23, 3) := by decide +kernel
theorem dL_law_370 : decode cL_law 370 = .ok (.land, 1) := by decide +kernel
theorem dL_law_371 : decode cL_law 371 = .ok (.lor, 1) := by decide +kernel
theorem dL_law_372 : decode cL_law 372 = .ok (.aload_n 0, 1) := by decide +kernel
theorem dL_law_373 : decode cL_law 373 = .ok (.iload_n 3, 1) := by decide +kernel
theorem dL_law_374 : decode cL_law 374 = .ok (.iconst 4, 1) := by decide +kernel
theorem dL_law_375 : decode cL_law 375 = .ok (.iadd, 1) := by decide +kernel
theorem dL_law_376 : decode cL_law 376 = .ok (.iaload, 1) := by decide +kernel
theorem dL_law_377 : decode cL_law 377 = .ok (.aload_n 0, 1) := by decide +kernel
theorem dL_law_378 : decode cL_law 378 = .ok (.iload_n 3, 1) := by decide +kernel
theorem dL_law_379 : decode cL_law 379 = .ok (.iconst 5, 1) := by decide +kernel
theorem dL_law_380 : decode cL_law 380 = .ok (.iadd, 1) := by decide +kernel
theorem dL_law_381 : decode cL_law 381 = .ok (.iaload, 1) := by decide +kernel
theorem dL_law_382 : decode cL_law 382 = .ok (.invokevirtual 34, 3) := by decide +kernel
theorem dL_law_385 : decode cL_law 385 = .ok (.aload_n 2, 1) := by decide +kernel
theorem dL_law_386 : decode cL_law 386 = .ok (.aload_n 0, 1) := by decide +kernel
theorem dL_law_387 : decode cL_law 387 = .ok (.iload_n 3, 1) := by decide +kernel
theorem dL_law_388 : decode cL_law 388 = .ok (.iconst 1, 1) := by decide +kernel
theorem dL_law_389 : decode cL_law 389 = .ok (.iadd, 1) := by decide +kernel
theorem dL_law_390 : decode cL_law 390 = .ok (.iaload, 1) := by decide +kernel
theorem dL_law_391 : decode cL_law 391 = .ok (.aload_n 0, 1) := by decide +kernel
theorem dL_law_392 : decode cL_law 392 = .ok (.iload_n 3, 1) := by decide +kernel
theorem dL_law_393 : decode cL_law 393 = .ok (.iconst 2, 1) := by decide +kernel
theorem dL_law_394 : decode cL_law 394 = .ok (.iadd, 1) := by decide +kernel
theorem dL_law_395 : decode cL_law 395 = .ok (.iaload, 1) := by decide +kernel
theorem dL_law_396 : decode cL_law 396 = .ok (.i2l, 1) := by decide +kernel
theorem dL_law_397 : decode cL_law 397 = .ok (.bipush 32, 2) := by decide +kernel
theorem dL_law_399 : decode cL_law 399 = .ok (.lshl, 1) := by decide +kernel
theorem dL_law_400 : decode cL_law 400 = .ok (.aload_n 0, 1) := by decide +kernel
theorem dL_law_401 : decode cL_law 401 = .ok (.iload_n 3, 1) := by decide +kernel
theorem dL_law_402 : decode cL_law 402 = .ok (.iconst 3, 1) := by decide +kernel
theorem dL_law_403 : decode cL_law 403 = .ok (.iadd, 1) := by decide +kernel
theorem dL_law_404 : decode cL_law 404 = .ok (.iaload, 1) := by decide +kernel
theorem dL_law_405 : decode cL_law 405 = .ok (.i2l, 1) := by decide +kernel
theorem dL_law_406 : decode cL_law 406 = .ok (.ldc2_w 23, 3) := by decide +kernel
theorem dL_law_409 : decode cL_law 409 = .ok (.land, 1) := by decide +kernel
theorem dL_law_410 : decode cL_law 410 = .ok (.lor, 1) := by decide +kernel
theorem dL_law_411 : decode cL_law 411 = .ok (.aload_n 0, 1) := by decide +kernel
theorem dL_law_412 : decode cL_law 412 = .ok (.iload_n 3, 1) := by decide +kernel
theorem dL_law_413 : decode cL_law 413 = .ok (.iconst 4, 1) := by decide +kernel
theorem dL_law_414 : decode cL_law 414 = .ok (.iadd, 1) := by decide +kernel
theorem dL_law_415 : decode cL_law 415 = .ok (.iaload, 1) := by decide +kernel
theorem dL_law_416 : decode cL_law 416 = .ok (.aload_n 0, 1) := by decide +kernel
theorem dL_law_417 : decode cL_law 417 = .ok (.iload_n 3, 1) := by decide +kernel
theorem dL_law_418 : decode cL_law 418 = .ok (.iconst 5, 1) := by decide +kernel
theorem dL_law_419 : decode cL_law 419 = .ok (.iadd, 1) := by decide +kernel
theorem dL_law_420 : decode cL_law 420 = .ok (.iaload, 1) := by decide +kernel
theorem dL_law_421 : decode cL_law 421 = .ok (.invokevirtual 38, 3) := by decide +kernel
theorem dL_law_424 : decode cL_law 424 = .ok (.if_icmp .eq 704, 3) := by decide +kernel
theorem dL_law_427 : decode cL_law 427 = .ok (.iconst 0, 1) := by decide +kernel
theorem dL_law_428 : decode cL_law 428 = .ok (.ireturn, 1) := by decide +kernel
theorem dL_law_429 : decode cL_law 429 = .ok (.aload_n 1, 1) := by decide +kernel
theorem dL_law_430 : decode cL_law 430 = .ok (.aload_n 0, 1) := by decide +kernel
theorem dL_law_431 : decode cL_law 431 = .ok (.iload_n 3, 1) := by decide +kernel
theorem dL_law_432 : decode cL_law 432 = .ok (.iconst 1, 1) := by decide +kernel
theorem dL_law_433 : decode cL_law 433 = .ok (.iadd, 1) := by decide +kernel
theorem dL_law_434 : decode cL_law 434 = .ok (.iaload, 1) := by decide +kernel
theorem dL_law_435 : decode cL_law 435 = .ok (.aload_n 0, 1) := by decide +kernel
theorem dL_law_436 : decode cL_law 436 = .ok (.iload_n 3, 1) := by decide +kernel
theorem dL_law_437 : decode cL_law 437 = .ok (.iconst 2, 1) := by decide +kernel
theorem dL_law_438 : decode cL_law 438 = .ok (.iadd, 1) := by decide +kernel
theorem dL_law_439 : decode cL_law 439 = .ok (.iaload, 1) := by decide +kernel
theorem dL_law_440 : decode cL_law 440 = .ok (.invokevirtual 39, 3) := by decide +kernel
theorem dL_law_443 : decode cL_law 443 = .ok (.aload_n 2, 1) := by decide +kernel
theorem dL_law_444 : decode cL_law 444 = .ok (.aload_n 0, 1) := by decide +kernel
theorem dL_law_445 : decode cL_law 445 = .ok (.iload_n 3, 1) := by decide +kernel
theorem dL_law_446 : decode cL_law 446 = .ok (.iconst 1, 1) := by decide +kernel
theorem dL_law_447 : decode cL_law 447 = .ok (.iadd, 1) := by decide +kernel
theorem dL_law_448 : decode cL_law 448 = .ok (.iaload, 1) := by decide +kernel
theorem dL_law_449 : decode cL_law 449 = .ok (.aload_n 0, 1) := by decide +kernel
theorem dL_law_450 : decode cL_law 450 = .ok (.iload_n 3, 1) := by decide +kernel
theorem dL_law_451 : decode cL_law 451 = .ok (.iconst 2, 1) := by decide +kernel
theorem dL_law_452 : decode cL_law 452 = .ok (.iadd, 1) := by decide +kernel
theorem dL_law_453 : decode cL_law 453 = .ok (.iaload, 1) := by decide +kernel
theorem dL_law_454 : decode cL_law 454 = .ok (.invokevirtual 42, 3) := by decide +kernel
theorem dL_law_457 : decode cL_law 457 = .ok (.if_icmp .eq 671, 3) := by decide +kernel
theorem dL_law_460 : decode cL_law 460 = .ok (.iconst 0, 1) := by decide +kernel
theorem dL_law_461 : decode cL_law 461 = .ok (.ireturn, 1) := by decide +kernel
theorem dL_law_462 : decode cL_law 462 = .ok (.aload_n 1, 1) := by decide +kernel
theorem dL_law_463 : decode cL_law 463 = .ok (.aload_n 0, 1) := by decide +kernel
theorem dL_law_464 : decode cL_law 464 = .ok (.iload_n 3, 1) := by decide +kernel
theorem dL_law_465 : decode cL_law 465 = .ok (.iconst 1, 1) := by decide +kernel
theorem dL_law_466 : decode cL_law 466 = .ok (.iadd, 1) := by decide +kernel
theorem dL_law_467 : decode cL_law 467 = .ok (.iaload, 1) := by decide +kernel
theorem dL_law_468 : decode cL_law 468 = .ok (.aload_n 0, 1) := by decide +kernel
theorem dL_law_469 : decode cL_law 469 = .ok (.iload_n 3, 1) := by decide +kernel
theorem dL_law_470 : decode cL_law 470 = .ok (.iconst 2, 1) := by decide +kernel
theorem dL_law_471 : decode cL_law 471 = .ok (.iadd, 1) := by decide +kernel
theorem dL_law_472 : decode cL_law 472 = .ok (.iaload, 1) := by decide +kernel
theorem dL_law_473 : decode cL_law 473 = .ok (.invokevirtual 43, 3) := by decide +kernel
theorem dL_law_476 : decode cL_law 476 = .ok (.aload_n 2, 1) := by decide +kernel
theorem dL_law_477 : decode cL_law 477 = .ok (.aload_n 0, 1) := by decide +kernel
theorem dL_law_478 : decode cL_law 478 = .ok (.iload_n 3, 1) := by decide +kernel
theorem dL_law_479 : decode cL_law 479 = .ok (.iconst 1, 1) := by decide +kernel
theorem dL_law_480 : decode cL_law 480 = .ok (.iadd, 1) := by decide +kernel
theorem dL_law_481 : decode cL_law 481 = .ok (.iaload, 1) := by decide +kernel
theorem dL_law_482 : decode cL_law 482 = .ok (.aload_n 0, 1) := by decide +kernel
theorem dL_law_483 : decode cL_law 483 = .ok (.iload_n 3, 1) := by decide +kernel
theorem dL_law_484 : decode cL_law 484 = .ok (.iconst 2, 1) := by decide +kernel
theorem dL_law_485 : decode cL_law 485 = .ok (.iadd, 1) := by decide +kernel
theorem dL_law_486 : decode cL_law 486 = .ok (.iaload, 1) := by decide +kernel
theorem dL_law_487 : decode cL_law 487 = .ok (.invokevirtual 46, 3) := by decide +kernel
theorem dL_law_490 : decode cL_law 490 = .ok (.if_icmp .eq 638, 3) := by decide +kernel
theorem dL_law_493 : decode cL_law 493 = .ok (.iconst 0, 1) := by decide +kernel
theorem dL_law_494 : decode cL_law 494 = .ok (.ireturn, 1) := by decide +kernel
theorem dL_law_495 : decode cL_law 495 = .ok (.aload_n 1, 1) := by decide +kernel
theorem dL_law_496 : decode cL_law 496 = .ok (.aload_n 0, 1) := by decide +kernel
theorem dL_law_497 : decode cL_law 497 = .ok (.iload_n 3, 1) := by decide +kernel
theorem dL_law_498 : decode cL_law 498 = .ok (.iconst 1, 1) := by decide +kernel
theorem dL_law_499 : decode cL_law 499 = .ok (.iadd, 1) := by decide +kernel
theorem dL_law_500 : decode cL_law 500 = .ok (.iaload, 1) := by decide +kernel
theorem dL_law_501 : decode cL_law 501 = .ok (.aload_n 0, 1) := by decide +kernel
theorem dL_law_502 : decode cL_law 502 = .ok (.iload_n 3, 1) := by decide +kernel
theorem dL_law_503 : decode cL_law 503 = .ok (.iconst 2, 1) := by decide +kernel
theorem dL_law_504 : decode cL_law 504 = .ok (.iadd, 1) := by decide +kernel
theorem dL_law_505 : decode cL_law 505 = .ok (.iaload, 1) := by decide +kernel
theorem dL_law_506 : decode cL_law 506 = .ok (.invokevirtual 47, 3) := by decide +kernel
theorem dL_law_509 : decode cL_law 509 = .ok (.aload_n 2, 1) := by decide +kernel
theorem dL_law_510 : decode cL_law 510 = .ok (.aload_n 0, 1) := by decide +kernel
theorem dL_law_511 : decode cL_law 511 = .ok (.iload_n 3, 1) := by decide +kernel
theorem dL_law_512 : decode cL_law 512 = .ok (.iconst 1, 1) := by decide +kernel
theorem dL_law_513 : decode cL_law 513 = .ok (.iadd, 1) := by decide +kernel
theorem dL_law_514 : decode cL_law 514 = .ok (.iaload, 1) := by decide +kernel
theorem dL_law_515 : decode cL_law 515 = .ok (.aload_n 0, 1) := by decide +kernel
theorem dL_law_516 : decode cL_law 516 = .ok (.iload_n 3, 1) := by decide +kernel
theorem dL_law_517 : decode cL_law 517 = .ok (.iconst 2, 1) := by decide +kernel
theorem dL_law_518 : decode cL_law 518 = .ok (.iadd, 1) := by decide +kernel
theorem dL_law_519 : decode cL_law 519 = .ok (.iaload, 1) := by decide +kernel
theorem dL_law_520 : decode cL_law 520 = .ok (.invokevirtual 50, 3) := by decide +kernel
theorem dL_law_523 : decode cL_law 523 = .ok (.if_icmp .eq 605, 3) := by decide +kernel
theorem dL_law_526 : decode cL_law 526 = .ok (.iconst 0, 1) := by decide +kernel
theorem dL_law_527 : decode cL_law 527 = .ok (.ireturn, 1) := by decide +kernel
theorem dL_law_528 : decode cL_law 528 = .ok (.aload_n 1, 1) := by decide +kernel
theorem dL_law_529 : decode cL_law 529 = .ok (.aload_n 0, 1) := by decide +kernel
theorem dL_law_530 : decode cL_law 530 = .ok (.iload_n 3, 1) := by decide +kernel
theorem dL_law_531 : decode cL_law 531 = .ok (.iconst 1, 1) := by decide +kernel
theorem dL_law_532 : decode cL_law 532 = .ok (.iadd, 1) := by decide +kernel
theorem dL_law_533 : decode cL_law 533 = .ok (.iaload, 1) := by decide +kernel
theorem dL_law_534 : decode cL_law 534 = .ok (.aload_n 0, 1) := by decide +kernel
theorem dL_law_535 : decode cL_law 535 = .ok (.iload_n 3, 1) := by decide +kernel
theorem dL_law_536 : decode cL_law 536 = .ok (.iconst 2, 1) := by decide +kernel
theorem dL_law_537 : decode cL_law 537 = .ok (.iadd, 1) := by decide +kernel
theorem dL_law_538 : decode cL_law 538 = .ok (.iaload, 1) := by decide +kernel
theorem dL_law_539 : decode cL_law 539 = .ok (.invokevirtual 51, 3) := by decide +kernel
theorem dL_law_542 : decode cL_law 542 = .ok (.aload_n 2, 1) := by decide +kernel
theorem dL_law_543 : decode cL_law 543 = .ok (.aload_n 0, 1) := by decide +kernel
theorem dL_law_544 : decode cL_law 544 = .ok (.iload_n 3, 1) := by decide +kernel
theorem dL_law_545 : decode cL_law 545 = .ok (.iconst 1, 1) := by decide +kernel
theorem dL_law_546 : decode cL_law 546 = .ok (.iadd, 1) := by decide +kernel
theorem dL_law_547 : decode cL_law 547 = .ok (.iaload, 1) := by decide +kernel
theorem dL_law_548 : decode cL_law 548 = .ok (.aload_n 0, 1) := by decide +kernel
theorem dL_law_549 : decode cL_law 549 = .ok (.iload_n 3, 1) := by decide +kernel
theorem dL_law_550 : decode cL_law 550 = .ok (.iconst 2, 1) := by decide +kernel
theorem dL_law_551 : decode cL_law 551 = .ok (.iadd, 1) := by decide +kernel
theorem dL_law_552 : decode cL_law 552 = .ok (.iaload, 1) := by decide +kernel
theorem dL_law_553 : decode cL_law 553 = .ok (.invokevirtual 54, 3) := by decide +kernel
theorem dL_law_556 : decode cL_law 556 = .ok (.if_icmp .eq 572, 3) := by decide +kernel
theorem dL_law_559 : decode cL_law 559 = .ok (.iconst 0, 1) := by decide +kernel
theorem dL_law_560 : decode cL_law 560 = .ok (.ireturn, 1) := by decide +kernel
theorem dL_law_561 : decode cL_law 561 = .ok (.aload_n 1, 1) := by decide +kernel
theorem dL_law_562 : decode cL_law 562 = .ok (.aload_n 0, 1) := by decide +kernel
theorem dL_law_563 : decode cL_law 563 = .ok (.iload_n 3, 1) := by decide +kernel
theorem dL_law_564 : decode cL_law 564 = .ok (.iconst 1, 1) := by decide +kernel
theorem dL_law_565 : decode cL_law 565 = .ok (.iadd, 1) := by decide +kernel
theorem dL_law_566 : decode cL_law 566 = .ok (.iaload, 1) := by decide +kernel
theorem dL_law_567 : decode cL_law 567 = .ok (.aload_n 0, 1) := by decide +kernel
theorem dL_law_568 : decode cL_law 568 = .ok (.iload_n 3, 1) := by decide +kernel
theorem dL_law_569 : decode cL_law 569 = .ok (.iconst 2, 1) := by decide +kernel
theorem dL_law_570 : decode cL_law 570 = .ok (.iadd, 1) := by decide +kernel
theorem dL_law_571 : decode cL_law 571 = .ok (.iaload, 1) := by decide +kernel
theorem dL_law_572 : decode cL_law 572 = .ok (.invokevirtual 55, 3) := by decide +kernel
theorem dL_law_575 : decode cL_law 575 = .ok (.aload_n 2, 1) := by decide +kernel
theorem dL_law_576 : decode cL_law 576 = .ok (.aload_n 0, 1) := by decide +kernel
theorem dL_law_577 : decode cL_law 577 = .ok (.iload_n 3, 1) := by decide +kernel
theorem dL_law_578 : decode cL_law 578 = .ok (.iconst 1, 1) := by decide +kernel
theorem dL_law_579 : decode cL_law 579 = .ok (.iadd, 1) := by decide +kernel
theorem dL_law_580 : decode cL_law 580 = .ok (.iaload, 1) := by decide +kernel
theorem dL_law_581 : decode cL_law 581 = .ok (.aload_n 0, 1) := by decide +kernel
theorem dL_law_582 : decode cL_law 582 = .ok (.iload_n 3, 1) := by decide +kernel
theorem dL_law_583 : decode cL_law 583 = .ok (.iconst 2, 1) := by decide +kernel
theorem dL_law_584 : decode cL_law 584 = .ok (.iadd, 1) := by decide +kernel
theorem dL_law_585 : decode cL_law 585 = .ok (.iaload, 1) := by decide +kernel
theorem dL_law_586 : decode cL_law 586 = .ok (.invokevirtual 58, 3) := by decide +kernel
theorem dL_law_589 : decode cL_law 589 = .ok (.if_icmp .eq 539, 3) := by decide +kernel
theorem dL_law_592 : decode cL_law 592 = .ok (.iconst 0, 1) := by decide +kernel
theorem dL_law_593 : decode cL_law 593 = .ok (.ireturn, 1) := by decide +kernel
theorem dL_law_594 : decode cL_law 594 = .ok (.aload_n 1, 1) := by decide +kernel
theorem dL_law_595 : decode cL_law 595 = .ok (.aload_n 0, 1) := by decide +kernel
theorem dL_law_596 : decode cL_law 596 = .ok (.iload_n 3, 1) := by decide +kernel
theorem dL_law_597 : decode cL_law 597 = .ok (.iconst 1, 1) := by decide +kernel
theorem dL_law_598 : decode cL_law 598 = .ok (.iadd, 1) := by decide +kernel
theorem dL_law_599 : decode cL_law 599 = .ok (.iaload, 1) := by decide +kernel
theorem dL_law_600 : decode cL_law 600 = .ok (.invokevirtual 59, 3) := by decide +kernel
theorem dL_law_603 : decode cL_law 603 = .ok (.aload_n 2, 1) := by decide +kernel
theorem dL_law_604 : decode cL_law 604 = .ok (.aload_n 0, 1) := by decide +kernel
theorem dL_law_605 : decode cL_law 605 = .ok (.iload_n 3, 1) := by decide +kernel
theorem dL_law_606 : decode cL_law 606 = .ok (.iconst 1, 1) := by decide +kernel
theorem dL_law_607 : decode cL_law 607 = .ok (.iadd, 1) := by decide +kernel
theorem dL_law_608 : decode cL_law 608 = .ok (.iaload, 1) := by decide +kernel
theorem dL_law_609 : decode cL_law 609 = .ok (.invokevirtual 63, 3) := by decide +kernel
theorem dL_law_612 : decode cL_law 612 = .ok (.if_icmp .eq 516, 3) := by decide +kernel
theorem dL_law_615 : decode cL_law 615 = .ok (.iconst 0, 1) := by decide +kernel
theorem dL_law_616 : decode cL_law 616 = .ok (.ireturn, 1) := by decide +kernel
theorem dL_law_617 : decode cL_law 617 = .ok (.aload_n 1, 1) := by decide +kernel
theorem dL_law_618 : decode cL_law 618 = .ok (.aload_n 0, 1) := by decide +kernel
theorem dL_law_619 : decode cL_law 619 = .ok (.iload_n 3, 1) := by decide +kernel
theorem dL_law_620 : decode cL_law 620 = .ok (.iconst 1, 1) := by decide +kernel
theorem dL_law_621 : decode cL_law 621 = .ok (.iadd, 1) := by decide +kernel
theorem dL_law_622 : decode cL_law 622 = .ok (.iaload, 1) := by decide +kernel
theorem dL_law_623 : decode cL_law 623 = .ok (.invokevirtual 64, 3) := by decide +kernel
theorem dL_law_626 : decode cL_law 626 = .ok (.aload_n 2, 1) := by decide +kernel
theorem dL_law_627 : decode cL_law 627 = .ok (.aload_n 0, 1) := by decide +kernel
theorem dL_law_628 : decode cL_law 628 = .ok (.iload_n 3, 1) := by decide +kernel
theorem dL_law_629 : decode cL_law 629 = .ok (.iconst 1, 1) := by decide +kernel
theorem dL_law_630 : decode cL_law 630 = .ok (.iadd, 1) := by decide +kernel
theorem dL_law_631 : decode cL_law 631 = .ok (.iaload, 1) := by decide +kernel
theorem dL_law_632 : decode cL_law 632 = .ok (.invokevirtual 67, 3) := by decide +kernel
theorem dL_law_635 : decode cL_law 635 = .ok (.if_icmp .eq 493, 3) := by decide +kernel
theorem dL_law_638 : decode cL_law 638 = .ok (.iconst 0, 1) := by decide +kernel
theorem dL_law_639 : decode cL_law 639 = .ok (.ireturn, 1) := by decide +kernel
theorem dL_law_640 : decode cL_law 640 = .ok (.aload_n 1, 1) := by decide +kernel
theorem dL_law_641 : decode cL_law 641 = .ok (.aload_n 0, 1) := by decide +kernel
theorem dL_law_642 : decode cL_law 642 = .ok (.iload_n 3, 1) := by decide +kernel
theorem dL_law_643 : decode cL_law 643 = .ok (.iconst 1, 1) := by decide +kernel
theorem dL_law_644 : decode cL_law 644 = .ok (.iadd, 1) := by decide +kernel
theorem dL_law_645 : decode cL_law 645 = .ok (.iaload, 1) := by decide +kernel
theorem dL_law_646 : decode cL_law 646 = .ok (.i2c, 1) := by decide +kernel
theorem dL_law_647 : decode cL_law 647 = .ok (.invokevirtual 68, 3) := by decide +kernel
theorem dL_law_650 : decode cL_law 650 = .ok (.aload_n 2, 1) := by decide +kernel
theorem dL_law_651 : decode cL_law 651 = .ok (.aload_n 0, 1) := by decide +kernel
theorem dL_law_652 : decode cL_law 652 = .ok (.iload_n 3, 1) := by decide +kernel
theorem dL_law_653 : decode cL_law 653 = .ok (.iconst 1, 1) := by decide +kernel
theorem dL_law_654 : decode cL_law 654 = .ok (.iadd, 1) := by decide +kernel
theorem dL_law_655 : decode cL_law 655 = .ok (.iaload, 1) := by decide +kernel
theorem dL_law_656 : decode cL_law 656 = .ok (.i2c, 1) := by decide +kernel
theorem dL_law_657 : decode cL_law 657 = .ok (.invokevirtual 72, 3) := by decide +kernel
theorem dL_law_660 : decode cL_law 660 = .ok (.if_icmp .eq 468, 3) := by decide +kernel
theorem dL_law_663 : decode cL_law 663 = .ok (.iconst 0, 1) := by decide +kernel
theorem dL_law_664 : decode cL_law 664 = .ok (.ireturn, 1) := by decide +kernel
theorem dL_law_665 : decode cL_law 665 = .ok (.aload_n 1, 1) := by decide +kernel
theorem dL_law_666 : decode cL_law 666 = .ok (.invokevirtual 73, 3) := by decide +kernel
theorem dL_law_669 : decode cL_law 669 = .ok (.aload_n 2, 1) := by decide +kernel
theorem dL_law_670 : decode cL_law 670 = .ok (.invokevirtual 77, 3) := by decide +kernel
theorem dL_law_673 : decode cL_law 673 = .ok (.if_icmp .eq 455, 3) := by decide +kernel
theorem dL_law_676 : decode cL_law 676 = .ok (.iconst 0, 1) := by decide +kernel
theorem dL_law_677 : decode cL_law 677 = .ok (.ireturn, 1) := by decide +kernel
theorem dL_law_678 : decode cL_law 678 = .ok (.aload_n 1, 1) := by decide +kernel
theorem dL_law_679 : decode cL_law 679 = .ok (.invokevirtual 78, 3) := by decide +kernel
theorem dL_law_682 : decode cL_law 682 = .ok (.aload_n 2, 1) := by decide +kernel
theorem dL_law_683 : decode cL_law 683 = .ok (.invokevirtual 81, 3) := by decide +kernel
theorem dL_law_686 : decode cL_law 686 = .ok (.if_icmp .eq 442, 3) := by decide +kernel
theorem dL_law_689 : decode cL_law 689 = .ok (.iconst 0, 1) := by decide +kernel
theorem dL_law_690 : decode cL_law 690 = .ok (.ireturn, 1) := by decide +kernel
theorem dL_law_691 : decode cL_law 691 = .ok (.aload_n 1, 1) := by decide +kernel
theorem dL_law_692 : decode cL_law 692 = .ok (.invokevirtual 82, 3) := by decide +kernel
theorem dL_law_695 : decode cL_law 695 = .ok (.aload_n 2, 1) := by decide +kernel
theorem dL_law_696 : decode cL_law 696 = .ok (.invokevirtual 85, 3) := by decide +kernel
theorem dL_law_699 : decode cL_law 699 = .ok (.if_icmp .eq 429, 3) := by decide +kernel
theorem dL_law_702 : decode cL_law 702 = .ok (.iconst 0, 1) := by decide +kernel
theorem dL_law_703 : decode cL_law 703 = .ok (.ireturn, 1) := by decide +kernel
theorem dL_law_704 : decode cL_law 704 = .ok (.aload_n 1, 1) := by decide +kernel
theorem dL_law_705 : decode cL_law 705 = .ok (.invokevirtual 86, 3) := by decide +kernel
theorem dL_law_708 : decode cL_law 708 = .ok (.aload_n 2, 1) := by decide +kernel
theorem dL_law_709 : decode cL_law 709 = .ok (.invokevirtual 89, 3) := by decide +kernel
theorem dL_law_712 : decode cL_law 712 = .ok (.if_icmp .eq 416, 3) := by decide +kernel
theorem dL_law_715 : decode cL_law 715 = .ok (.iconst 0, 1) := by decide +kernel
theorem dL_law_716 : decode cL_law 716 = .ok (.ireturn, 1) := by decide +kernel
theorem dL_law_717 : decode cL_law 717 = .ok (.aload_n 1, 1) := by decide +kernel
theorem dL_law_718 : decode cL_law 718 = .ok (.invokevirtual 90, 3) := by decide +kernel
theorem dL_law_721 : decode cL_law 721 = .ok (.aload_n 2, 1) := by decide +kernel
theorem dL_law_722 : decode cL_law 722 = .ok (.invokevirtual 93, 3) := by decide +kernel
theorem dL_law_725 : decode cL_law 725 = .ok (.if_icmp .eq 403, 3) := by decide +kernel
theorem dL_law_728 : decode cL_law 728 = .ok (.iconst 0, 1) := by decide +kernel
theorem dL_law_729 : decode cL_law 729 = .ok (.ireturn, 1) := by decide +kernel
theorem dL_law_730 : decode cL_law 730 = .ok (.aload_n 1, 1) := by decide +kernel
theorem dL_law_731 : decode cL_law 731 = .ok (.aload_n 0, 1) := by decide +kernel
theorem dL_law_732 : decode cL_law 732 = .ok (.iload_n 3, 1) := by decide +kernel
theorem dL_law_733 : decode cL_law 733 = .ok (.iconst 1, 1) := by decide +kernel
theorem dL_law_734 : decode cL_law 734 = .ok (.iadd, 1) := by decide +kernel
theorem dL_law_735 : decode cL_law 735 = .ok (.iaload, 1) := by decide +kernel
theorem dL_law_736 : decode cL_law 736 = .ok (.aload_n 0, 1) := by decide +kernel
theorem dL_law_737 : decode cL_law 737 = .ok (.iload_n 3, 1) := by decide +kernel
theorem dL_law_738 : decode cL_law 738 = .ok (.iconst 2, 1) := by decide +kernel
theorem dL_law_739 : decode cL_law 739 = .ok (.iadd, 1) := by decide +kernel
theorem dL_law_740 : decode cL_law 740 = .ok (.iaload, 1) := by decide +kernel
theorem dL_law_741 : decode cL_law 741 = .ok (.invokevirtual 94, 3) := by decide +kernel
theorem dL_law_744 : decode cL_law 744 = .ok (.aload_n 2, 1) := by decide +kernel
theorem dL_law_745 : decode cL_law 745 = .ok (.aload_n 0, 1) := by decide +kernel
theorem dL_law_746 : decode cL_law 746 = .ok (.iload_n 3, 1) := by decide +kernel
theorem dL_law_747 : decode cL_law 747 = .ok (.iconst 1, 1) := by decide +kernel
theorem dL_law_748 : decode cL_law 748 = .ok (.iadd, 1) := by decide +kernel
theorem dL_law_749 : decode cL_law 749 = .ok (.iaload, 1) := by decide +kernel
theorem dL_law_750 : decode cL_law 750 = .ok (.aload_n 0, 1) := by decide +kernel
theorem dL_law_751 : decode cL_law 751 = .ok (.iload_n 3, 1) := by decide +kernel
theorem dL_law_752 : decode cL_law 752 = .ok (.iconst 2, 1) := by decide +kernel
theorem dL_law_753 : decode cL_law 753 = .ok (.iadd, 1) := by decide +kernel
theorem dL_law_754 : decode cL_law 754 = .ok (.iaload, 1) := by decide +kernel
theorem dL_law_755 : decode cL_law 755 = .ok (.invokevirtual 97, 3) := by decide +kernel
theorem dL_law_758 : decode cL_law 758 = .ok (.if_icmp .eq 370, 3) := by decide +kernel
theorem dL_law_761 : decode cL_law 761 = .ok (.iconst 0, 1) := by decide +kernel
theorem dL_law_762 : decode cL_law 762 = .ok (.ireturn, 1) := by decide +kernel
theorem dL_law_763 : decode cL_law 763 = .ok (.aload_n 1, 1) := by decide +kernel
theorem dL_law_764 : decode cL_law 764 = .ok (.aload_n 0, 1) := by decide +kernel
theorem dL_law_765 : decode cL_law 765 = .ok (.iload_n 3, 1) := by decide +kernel
theorem dL_law_766 : decode cL_law 766 = .ok (.iconst 1, 1) := by decide +kernel
theorem dL_law_767 : decode cL_law 767 = .ok (.iadd, 1) := by decide +kernel
theorem dL_law_768 : decode cL_law 768 = .ok (.iaload, 1) := by decide +kernel
theorem dL_law_769 : decode cL_law 769 = .ok (.aload_n 0, 1) := by decide +kernel
theorem dL_law_770 : decode cL_law 770 = .ok (.iload_n 3, 1) := by decide +kernel
theorem dL_law_771 : decode cL_law 771 = .ok (.iconst 2, 1) := by decide +kernel
theorem dL_law_772 : decode cL_law 772 = .ok (.iadd, 1) := by decide +kernel
theorem dL_law_773 : decode cL_law 773 = .ok (.iaload, 1) := by decide +kernel
theorem dL_law_774 : decode cL_law 774 = .ok (.invokevirtual 98, 3) := by decide +kernel
theorem dL_law_777 : decode cL_law 777 = .ok (.aload_n 2, 1) := by decide +kernel
theorem dL_law_778 : decode cL_law 778 = .ok (.aload_n 0, 1) := by decide +kernel
theorem dL_law_779 : decode cL_law 779 = .ok (.iload_n 3, 1) := by decide +kernel
theorem dL_law_780 : decode cL_law 780 = .ok (.iconst 1, 1) := by decide +kernel
theorem dL_law_781 : decode cL_law 781 = .ok (.iadd, 1) := by decide +kernel
theorem dL_law_782 : decode cL_law 782 = .ok (.iaload, 1) := by decide +kernel
theorem dL_law_783 : decode cL_law 783 = .ok (.aload_n 0, 1) := by decide +kernel
theorem dL_law_784 : decode cL_law 784 = .ok (.iload_n 3, 1) := by decide +kernel
theorem dL_law_785 : decode cL_law 785 = .ok (.iconst 2, 1) := by decide +kernel
theorem dL_law_786 : decode cL_law 786 = .ok (.iadd, 1) := by decide +kernel
theorem dL_law_787 : decode cL_law 787 = .ok (.iaload, 1) := by decide +kernel
theorem dL_law_788 : decode cL_law 788 = .ok (.invokevirtual 101, 3) := by decide +kernel
theorem dL_law_791 : decode cL_law 791 = .ok (.if_icmp .eq 337, 3) := by decide +kernel
theorem dL_law_794 : decode cL_law 794 = .ok (.iconst 0, 1) := by decide +kernel
theorem dL_law_795 : decode cL_law 795 = .ok (.ireturn, 1) := by decide +kernel
theorem dL_law_796 : decode cL_law 796 = .ok (.aload_n 1, 1) := by decide +kernel
theorem dL_law_797 : decode cL_law 797 = .ok (.aload_n 0, 1) := by decide +kernel
theorem dL_law_798 : decode cL_law 798 = .ok (.iload_n 3, 1) := by decide +kernel
theorem dL_law_799 : decode cL_law 799 = .ok (.iconst 1, 1) := by decide +kernel
theorem dL_law_800 : decode cL_law 800 = .ok (.iadd, 1) := by decide +kernel
theorem dL_law_801 : decode cL_law 801 = .ok (.iaload, 1) := by decide +kernel
theorem dL_law_802 : decode cL_law 802 = .ok (.aload_n 0, 1) := by decide +kernel
theorem dL_law_803 : decode cL_law 803 = .ok (.iload_n 3, 1) := by decide +kernel
theorem dL_law_804 : decode cL_law 804 = .ok (.iconst 2, 1) := by decide +kernel
theorem dL_law_805 : decode cL_law 805 = .ok (.iadd, 1) := by decide +kernel
theorem dL_law_806 : decode cL_law 806 = .ok (.iaload, 1) := by decide +kernel
theorem dL_law_807 : decode cL_law 807 = .ok (.aload_n 0, 1) := by decide +kernel
theorem dL_law_808 : decode cL_law 808 = .ok (.iload_n 3, 1) := by decide +kernel
theorem dL_law_809 : decode cL_law 809 = .ok (.iconst 3, 1) := by decide +kernel
theorem dL_law_810 : decode cL_law 810 = .ok (.iadd, 1) := by decide +kernel
theorem dL_law_811 : decode cL_law 811 = .ok (.iaload, 1) := by decide +kernel
theorem dL_law_812 : decode cL_law 812 = .ok (.invokevirtual 102, 3) := by decide +kernel
theorem dL_law_815 : decode cL_law 815 = .ok (.aload_n 2, 1) := by decide +kernel
theorem dL_law_816 : decode cL_law 816 = .ok (.aload_n 0, 1) := by decide +kernel
theorem dL_law_817 : decode cL_law 817 = .ok (.iload_n 3, 1) := by decide +kernel
theorem dL_law_818 : decode cL_law 818 = .ok (.iconst 1, 1) := by decide +kernel
theorem dL_law_819 : decode cL_law 819 = .ok (.iadd, 1) := by decide +kernel
theorem dL_law_820 : decode cL_law 820 = .ok (.iaload, 1) := by decide +kernel
theorem dL_law_821 : decode cL_law 821 = .ok (.aload_n 0, 1) := by decide +kernel
theorem dL_law_822 : decode cL_law 822 = .ok (.iload_n 3, 1) := by decide +kernel
theorem dL_law_823 : decode cL_law 823 = .ok (.iconst 2, 1) := by decide +kernel
theorem dL_law_824 : decode cL_law 824 = .ok (.iadd, 1) := by decide +kernel
theorem dL_law_825 : decode cL_law 825 = .ok (.iaload, 1) := by decide +kernel
theorem dL_law_826 : decode cL_law 826 = .ok (.aload_n 0, 1) := by decide +kernel
theorem dL_law_827 : decode cL_law 827 = .ok (.iload_n 3, 1) := by decide +kernel
theorem dL_law_828 : decode cL_law 828 = .ok (.iconst 3, 1) := by decide +kernel
theorem dL_law_829 : decode cL_law 829 = .ok (.iadd, 1) := by decide +kernel
theorem dL_law_830 : decode cL_law 830 = .ok (.iaload, 1) := by decide +kernel
theorem dL_law_831 : decode cL_law 831 = .ok (.invokevirtual 105, 3) := by decide +kernel
theorem dL_law_834 : decode cL_law 834 = .ok (.if_icmp .eq 294, 3) := by decide +kernel
theorem dL_law_837 : decode cL_law 837 = .ok (.iconst 0, 1) := by decide +kernel
theorem dL_law_838 : decode cL_law 838 = .ok (.ireturn, 1) := by decide +kernel
theorem dL_law_839 : decode cL_law 839 = .ok (.aload_n 1, 1) := by decide +kernel
theorem dL_law_840 : decode cL_law 840 = .ok (.aload_n 0, 1) := by decide +kernel
theorem dL_law_841 : decode cL_law 841 = .ok (.iload_n 3, 1) := by decide +kernel
theorem dL_law_842 : decode cL_law 842 = .ok (.iconst 1, 1) := by decide +kernel
theorem dL_law_843 : decode cL_law 843 = .ok (.iadd, 1) := by decide +kernel
theorem dL_law_844 : decode cL_law 844 = .ok (.iaload, 1) := by decide +kernel
theorem dL_law_845 : decode cL_law 845 = .ok (.invokevirtual 106, 3) := by decide +kernel
theorem dL_law_848 : decode cL_law 848 = .ok (.dstore 4, 2) := by decide +kernel
theorem dL_law_850 : decode cL_law 850 = .ok (.aload_n 2, 1) := by decide +kernel
theorem dL_law_851 : decode cL_law 851 = .ok (.aload_n 0, 1) := by decide +kernel
theorem dL_law_852 : decode cL_law 852 = .ok (.iload_n 3, 1) := by decide +kernel
theorem dL_law_853 : decode cL_law 853 = .ok (.iconst 1, 1) := by decide +kernel
theorem dL_law_854 : decode cL_law 854 = .ok (.iadd, 1) := by decide +kernel
theorem dL_law_855 : decode cL_law 855 = .ok (.iaload, 1) := by decide +kernel
theorem dL_law_856 : decode cL_law 856 = .ok (.invokevirtual 110, 3) := by decide +kernel
theorem dL_law_859 : decode cL_law 859 = .ok (.dstore 6, 2) := by decide +kernel
theorem dL_law_861 : decode cL_law 861 = .ok (.dload 4, 2) := by decide +kernel
theorem dL_law_863 : decode cL_law 863 = .ok (.dload 6, 2) := by decide +kernel
theorem dL_law_865 : decode cL_law 865 = .ok (.dcmp .l, 1) := by decide +kernel
theorem dL_law_866 : decode cL_law 866 = .ok (.ifCond .eq 21, 3) := by decide +kernel
theorem dL_law_869 : decode cL_law 869 = .ok (.dload 4, 2) := by decide +kernel
theorem dL_law_871 : decode cL_law 871 = .ok (.dload 4, 2) := by decide +kernel
theorem dL_law_873 : decode cL_law 873 = .ok (.dcmp .l, 1) := by decide +kernel
theorem dL_law_874 : decode cL_law 874 = .ok (.ifCond .eq 11, 3) := by decide +kernel
theorem dL_law_877 : decode cL_law 877 = .ok (.dload 6, 2) := by decide +kernel
theorem dL_law_879 : decode cL_law 879 = .ok (.dload 6, 2) := by decide +kernel
theorem dL_law_881 : decode cL_law 881 = .ok (.dcmp .l, 1) := by decide +kernel
theorem dL_law_882 : decode cL_law 882 = .ok (.ifCond .ne 5, 3) := by decide +kernel
theorem dL_law_885 : decode cL_law 885 = .ok (.iconst 0, 1) := by decide +kernel
theorem dL_law_886 : decode cL_law 886 = .ok (.ireturn, 1) := by decide +kernel
theorem dL_law_887 : decode cL_law 887 = .ok (.goto 241, 3) := by decide +kernel
theorem dL_law_890 : decode cL_law 890 = .ok (.aload_n 1, 1) := by decide +kernel
theorem dL_law_891 : decode cL_law 891 = .ok (.aload_n 0, 1) := by decide +kernel
theorem dL_law_892 : decode cL_law 892 = .ok (.iload_n 3, 1) := by decide +kernel
theorem dL_law_893 : decode cL_law 893 = .ok (.iconst 1, 1) := by decide +kernel
theorem dL_law_894 : decode cL_law 894 = .ok (.iadd, 1) := by decide +kernel
theorem dL_law_895 : decode cL_law 895 = .ok (.iaload, 1) := by decide +kernel
theorem dL_law_896 : decode cL_law 896 = .ok (.aload_n 0, 1) := by decide +kernel
theorem dL_law_897 : decode cL_law 897 = .ok (.iload_n 3, 1) := by decide +kernel
theorem dL_law_898 : decode cL_law 898 = .ok (.iconst 2, 1) := by decide +kernel
theorem dL_law_899 : decode cL_law 899 = .ok (.iadd, 1) := by decide +kernel
theorem dL_law_900 : decode cL_law 900 = .ok (.iaload, 1) := by decide +kernel
theorem dL_law_901 : decode cL_law 901 = .ok (.invokevirtual 111, 3) := by decide +kernel
theorem dL_law_904 : decode cL_law 904 = .ok (.dstore 4, 2) := by decide +kernel
theorem dL_law_906 : decode cL_law 906 = .ok (.aload_n 2, 1) := by decide +kernel
theorem dL_law_907 : decode cL_law 907 = .ok (.aload_n 0, 1) := by decide +kernel
theorem dL_law_908 : decode cL_law 908 = .ok (.iload_n 3, 1) := by decide +kernel
theorem dL_law_909 : decode cL_law 909 = .ok (.iconst 1, 1) := by decide +kernel
theorem dL_law_910 : decode cL_law 910 = .ok (.iadd, 1) := by decide +kernel
theorem dL_law_911 : decode cL_law 911 = .ok (.iaload, 1) := by decide +kernel
theorem dL_law_912 : decode cL_law 912 = .ok (.aload_n 0, 1) := by decide +kernel
theorem dL_law_913 : decode cL_law 913 = .ok (.iload_n 3, 1) := by decide +kernel
theorem dL_law_914 : decode cL_law 914 = .ok (.iconst 2, 1) := by decide +kernel
theorem dL_law_915 : decode cL_law 915 = .ok (.iadd, 1) := by decide +kernel
theorem dL_law_916 : decode cL_law 916 = .ok (.iaload, 1) := by decide +kernel
theorem dL_law_917 : decode cL_law 917 = .ok (.invokevirtual 115, 3) := by decide +kernel
theorem dL_law_920 : decode cL_law 920 = .ok (.dstore 6, 2) := by decide +kernel
theorem dL_law_922 : decode cL_law 922 = .ok (.dload 4, 2) := by decide +kernel
theorem dL_law_924 : decode cL_law 924 = .ok (.dload 6, 2) := by decide +kernel
theorem dL_law_926 : decode cL_law 926 = .ok (.dcmp .l, 1) := by decide +kernel
theorem dL_law_927 : decode cL_law 927 = .ok (.ifCond .eq 21, 3) := by decide +kernel
theorem dL_law_930 : decode cL_law 930 = .ok (.dload 4, 2) := by decide +kernel
theorem dL_law_932 : decode cL_law 932 = .ok (.dload 4, 2) := by decide +kernel
theorem dL_law_934 : decode cL_law 934 = .ok (.dcmp .l, 1) := by decide +kernel
theorem dL_law_935 : decode cL_law 935 = .ok (.ifCond .eq 11, 3) := by decide +kernel
theorem dL_law_938 : decode cL_law 938 = .ok (.dload 6, 2) := by decide +kernel
theorem dL_law_940 : decode cL_law 940 = .ok (.dload 6, 2) := by decide +kernel
theorem dL_law_942 : decode cL_law 942 = .ok (.dcmp .l, 1) := by decide +kernel
theorem dL_law_943 : decode cL_law 943 = .ok (.ifCond .ne 5, 3) := by decide +kernel
theorem dL_law_946 : decode cL_law 946 = .ok (.iconst 0, 1) := by decide +kernel
theorem dL_law_947 : decode cL_law 947 = .ok (.ireturn, 1) := by decide +kernel
theorem dL_law_948 : decode cL_law 948 = .ok (.goto 180, 3) := by decide +kernel
theorem dL_law_951 : decode cL_law 951 = .ok (.aload_n 1, 1) := by decide +kernel
theorem dL_law_952 : decode cL_law 952 = .ok (.aload_n 0, 1) := by decide +kernel
theorem dL_law_953 : decode cL_law 953 = .ok (.iload_n 3, 1) := by decide +kernel
theorem dL_law_954 : decode cL_law 954 = .ok (.iconst 1, 1) := by decide +kernel
theorem dL_law_955 : decode cL_law 955 = .ok (.iadd, 1) := by decide +kernel
theorem dL_law_956 : decode cL_law 956 = .ok (.iaload, 1) := by decide +kernel
theorem dL_law_957 : decode cL_law 957 = .ok (.invokevirtual 116, 3) := by decide +kernel
theorem dL_law_960 : decode cL_law 960 = .ok (.dstore 4, 2) := by decide +kernel
theorem dL_law_962 : decode cL_law 962 = .ok (.aload_n 2, 1) := by decide +kernel
theorem dL_law_963 : decode cL_law 963 = .ok (.aload_n 0, 1) := by decide +kernel
theorem dL_law_964 : decode cL_law 964 = .ok (.iload_n 3, 1) := by decide +kernel
theorem dL_law_965 : decode cL_law 965 = .ok (.iconst 1, 1) := by decide +kernel
theorem dL_law_966 : decode cL_law 966 = .ok (.iadd, 1) := by decide +kernel
theorem dL_law_967 : decode cL_law 967 = .ok (.iaload, 1) := by decide +kernel
theorem dL_law_968 : decode cL_law 968 = .ok (.invokevirtual 119, 3) := by decide +kernel
theorem dL_law_971 : decode cL_law 971 = .ok (.dstore 6, 2) := by decide +kernel
theorem dL_law_973 : decode cL_law 973 = .ok (.dload 4, 2) := by decide +kernel
theorem dL_law_975 : decode cL_law 975 = .ok (.dload 6, 2) := by decide +kernel
theorem dL_law_977 : decode cL_law 977 = .ok (.dcmp .l, 1) := by decide +kernel
theorem dL_law_978 : decode cL_law 978 = .ok (.ifCond .eq 21, 3) := by decide +kernel
theorem dL_law_981 : decode cL_law 981 = .ok (.dload 4, 2) := by decide +kernel
theorem dL_law_983 : decode cL_law 983 = .ok (.dload 4, 2) := by decide +kernel
theorem dL_law_985 : decode cL_law 985 = .ok (.dcmp .l, 1) := by decide +kernel
theorem dL_law_986 : decode cL_law 986 = .ok (.ifCond .eq 11, 3) := by decide +kernel
theorem dL_law_989 : decode cL_law 989 = .ok (.dload 6, 2) := by decide +kernel
theorem dL_law_991 : decode cL_law 991 = .ok (.dload 6, 2) := by decide +kernel
theorem dL_law_993 : decode cL_law 993 = .ok (.dcmp .l, 1) := by decide +kernel
theorem dL_law_994 : decode cL_law 994 = .ok (.ifCond .ne 5, 3) := by decide +kernel
theorem dL_law_997 : decode cL_law 997 = .ok (.iconst 0, 1) := by decide +kernel
theorem dL_law_998 : decode cL_law 998 = .ok (.ireturn, 1) := by decide +kernel
theorem dL_law_999 : decode cL_law 999 = .ok (.goto 129, 3) := by decide +kernel
theorem dL_law_1002 : decode cL_law 1002 = .ok (.aload_n 1, 1) := by decide +kernel
theorem dL_law_1003 : decode cL_law 1003 = .ok (.aload_n 0, 1) := by decide +kernel
theorem dL_law_1004 : decode cL_law 1004 = .ok (.iload_n 3, 1) := by decide +kernel
theorem dL_law_1005 : decode cL_law 1005 = .ok (.iconst 1, 1) := by decide +kernel
theorem dL_law_1006 : decode cL_law 1006 = .ok (.iadd, 1) := by decide +kernel
theorem dL_law_1007 : decode cL_law 1007 = .ok (.iaload, 1) := by decide +kernel
theorem dL_law_1008 : decode cL_law 1008 = .ok (.aload_n 0, 1) := by decide +kernel
theorem dL_law_1009 : decode cL_law 1009 = .ok (.iload_n 3, 1) := by decide +kernel
theorem dL_law_1010 : decode cL_law 1010 = .ok (.iconst 2, 1) := by decide +kernel
theorem dL_law_1011 : decode cL_law 1011 = .ok (.iadd, 1) := by decide +kernel
theorem dL_law_1012 : decode cL_law 1012 = .ok (.iaload, 1) := by decide +kernel
theorem dL_law_1013 : decode cL_law 1013 = .ok (.invokevirtual 120, 3) := by decide +kernel
theorem dL_law_1016 : decode cL_law 1016 = .ok (.aload_n 2, 1) := by decide +kernel
theorem dL_law_1017 : decode cL_law 1017 = .ok (.aload_n 0, 1) := by decide +kernel
theorem dL_law_1018 : decode cL_law 1018 = .ok (.iload_n 3, 1) := by decide +kernel
theorem dL_law_1019 : decode cL_law 1019 = .ok (.iconst 1, 1) := by decide +kernel
theorem dL_law_1020 : decode cL_law 1020 = .ok (.iadd, 1) := by decide +kernel
theorem dL_law_1021 : decode cL_law 1021 = .ok (.iaload, 1) := by decide +kernel
theorem dL_law_1022 : decode cL_law 1022 = .ok (.aload_n 0, 1) := by decide +kernel
theorem dL_law_1023 : decode cL_law 1023 = .ok (.iload_n 3, 1) := by decide +kernel
theorem dL_law_1024 : decode cL_law 1024 = .ok (.iconst 2, 1) := by decide +kernel
theorem dL_law_1025 : decode cL_law 1025 = .ok (.iadd, 1) := by decide +kernel
theorem dL_law_1026 : decode cL_law 1026 = .ok (.iaload, 1) := by decide +kernel
theorem dL_law_1027 : decode cL_law 1027 = .ok (.invokevirtual 123, 3) := by decide +kernel
theorem dL_law_1030 : decode cL_law 1030 = .ok (.if_icmp .eq 98, 3) := by decide +kernel
theorem dL_law_1033 : decode cL_law 1033 = .ok (.iconst 0, 1) := by decide +kernel
theorem dL_law_1034 : decode cL_law 1034 = .ok (.ireturn, 1) := by decide +kernel
theorem dL_law_1035 : decode cL_law 1035 = .ok (.aload_n 1, 1) := by decide +kernel
theorem dL_law_1036 : decode cL_law 1036 = .ok (.aload_n 0, 1) := by decide +kernel
theorem dL_law_1037 : decode cL_law 1037 = .ok (.iload_n 3, 1) := by decide +kernel
theorem dL_law_1038 : decode cL_law 1038 = .ok (.iconst 1, 1) := by decide +kernel
theorem dL_law_1039 : decode cL_law 1039 = .ok (.iadd, 1) := by decide +kernel
theorem dL_law_1040 : decode cL_law 1040 = .ok (.iaload, 1) := by decide +kernel
theorem dL_law_1041 : decode cL_law 1041 = .ok (.invokevirtual 124, 3) := by decide +kernel
theorem dL_law_1044 : decode cL_law 1044 = .ok (.aload_n 2, 1) := by decide +kernel
theorem dL_law_1045 : decode cL_law 1045 = .ok (.aload_n 0, 1) := by decide +kernel
theorem dL_law_1046 : decode cL_law 1046 = .ok (.iload_n 3, 1) := by decide +kernel
theorem dL_law_1047 : decode cL_law 1047 = .ok (.iconst 1, 1) := by decide +kernel
theorem dL_law_1048 : decode cL_law 1048 = .ok (.iadd, 1) := by decide +kernel
theorem dL_law_1049 : decode cL_law 1049 = .ok (.iaload, 1) := by decide +kernel
theorem dL_law_1050 : decode cL_law 1050 = .ok (.invokevirtual 127, 3) := by decide +kernel
theorem dL_law_1053 : decode cL_law 1053 = .ok (.if_icmp .eq 75, 3) := by decide +kernel
theorem dL_law_1056 : decode cL_law 1056 = .ok (.iconst 0, 1) := by decide +kernel
theorem dL_law_1057 : decode cL_law 1057 = .ok (.ireturn, 1) := by decide +kernel
theorem dL_law_1058 : decode cL_law 1058 = .ok (.aload_n 1, 1) := by decide +kernel
theorem dL_law_1059 : decode cL_law 1059 = .ok (.aload_n 0, 1) := by decide +kernel
theorem dL_law_1060 : decode cL_law 1060 = .ok (.iload_n 3, 1) := by decide +kernel
theorem dL_law_1061 : decode cL_law 1061 = .ok (.iconst 1, 1) := by decide +kernel
theorem dL_law_1062 : decode cL_law 1062 = .ok (.iadd, 1) := by decide +kernel
theorem dL_law_1063 : decode cL_law 1063 = .ok (.iaload, 1) := by decide +kernel
theorem dL_law_1064 : decode cL_law 1064 = .ok (.aload_n 0, 1) := by decide +kernel
theorem dL_law_1065 : decode cL_law 1065 = .ok (.iload_n 3, 1) := by decide +kernel
theorem dL_law_1066 : decode cL_law 1066 = .ok (.iconst 2, 1) := by decide +kernel
theorem dL_law_1067 : decode cL_law 1067 = .ok (.iadd, 1) := by decide +kernel
theorem dL_law_1068 : decode cL_law 1068 = .ok (.iaload, 1) := by decide +kernel
theorem dL_law_1069 : decode cL_law 1069 = .ok (.invokevirtual 128, 3) := by decide +kernel
theorem dL_law_1072 : decode cL_law 1072 = .ok (.aload_n 2, 1) := by decide +kernel
theorem dL_law_1073 : decode cL_law 1073 = .ok (.aload_n 0, 1) := by decide +kernel
theorem dL_law_1074 : decode cL_law 1074 = .ok (.iload_n 3, 1) := by decide +kernel
theorem dL_law_1075 : decode cL_law 1075 = .ok (.iconst 1, 1) := by decide +kernel
theorem dL_law_1076 : decode cL_law 1076 = .ok (.iadd, 1) := by decide +kernel
theorem dL_law_1077 : decode cL_law 1077 = .ok (.iaload, 1) := by decide +kernel
theorem dL_law_1078 : decode cL_law 1078 = .ok (.aload_n 0, 1) := by decide +kernel
theorem dL_law_1079 : decode cL_law 1079 = .ok (.iload_n 3, 1) := by decide +kernel
theorem dL_law_1080 : decode cL_law 1080 = .ok (.iconst 2, 1) := by decide +kernel
theorem dL_law_1081 : decode cL_law 1081 = .ok (.iadd, 1) := by decide +kernel
theorem dL_law_1082 : decode cL_law 1082 = .ok (.iaload, 1) := by decide +kernel
theorem dL_law_1083 : decode cL_law 1083 = .ok (.invokevirtual 131, 3) := by decide +kernel
theorem dL_law_1086 : decode cL_law 1086 = .ok (.if_icmp .eq 42, 3) := by decide +kernel
theorem dL_law_1089 : decode cL_law 1089 = .ok (.iconst 0, 1) := by decide +kernel
theorem dL_law_1090 : decode cL_law 1090 = .ok (.ireturn, 1) := by decide +kernel
theorem dL_law_1091 : decode cL_law 1091 = .ok (.aload_n 1, 1) := by decide +kernel
theorem dL_law_1092 : decode cL_law 1092 = .ok (.aload_n 0, 1) := by decide +kernel
theorem dL_law_1093 : decode cL_law 1093 = .ok (.iload_n 3, 1) := by decide +kernel
theorem dL_law_1094 : decode cL_law 1094 = .ok (.iconst 1, 1) := by decide +kernel
theorem dL_law_1095 : decode cL_law 1095 = .ok (.iadd, 1) := by decide +kernel
theorem dL_law_1096 : decode cL_law 1096 = .ok (.iaload, 1) := by decide +kernel
theorem dL_law_1097 : decode cL_law 1097 = .ok (.invokevirtual 132, 3) := by decide +kernel
theorem dL_law_1100 : decode cL_law 1100 = .ok (.aload_n 2, 1) := by decide +kernel
theorem dL_law_1101 : decode cL_law 1101 = .ok (.aload_n 0, 1) := by decide +kernel
theorem dL_law_1102 : decode cL_law 1102 = .ok (.iload_n 3, 1) := by decide +kernel
theorem dL_law_1103 : decode cL_law 1103 = .ok (.iconst 1, 1) := by decide +kernel
theorem dL_law_1104 : decode cL_law 1104 = .ok (.iadd, 1) := by decide +kernel
theorem dL_law_1105 : decode cL_law 1105 = .ok (.iaload, 1) := by decide +kernel
theorem dL_law_1106 : decode cL_law 1106 = .ok (.invokevirtual 135, 3) := by decide +kernel
theorem dL_law_1109 : decode cL_law 1109 = .ok (.if_icmp .eq 19, 3) := by decide +kernel
theorem dL_law_1112 : decode cL_law 1112 = .ok (.iconst 0, 1) := by decide +kernel
theorem dL_law_1113 : decode cL_law 1113 = .ok (.ireturn, 1) := by decide +kernel
theorem dL_law_1114 : decode cL_law 1114 = .ok (.aload_n 1, 1) := by decide +kernel
theorem dL_law_1115 : decode cL_law 1115 = .ok (.invokevirtual 136, 3) := by decide +kernel
theorem dL_law_1118 : decode cL_law 1118 = .ok (.aload_n 2, 1) := by decide +kernel
theorem dL_law_1119 : decode cL_law 1119 = .ok (.invokevirtual 140, 3) := by decide +kernel
theorem dL_law_1122 : decode cL_law 1122 = .ok (.lcmp, 1) := by decide +kernel
theorem dL_law_1123 : decode cL_law 1123 = .ok (.ifCond .eq 5, 3) := by decide +kernel
theorem dL_law_1126 : decode cL_law 1126 = .ok (.iconst 0, 1) := by decide +kernel
theorem dL_law_1127 : decode cL_law 1127 = .ok (.ireturn, 1) := by decide +kernel
theorem dL_law_1128 : decode cL_law 1128 = .ok (.iinc 3 6, 3) := by decide +kernel
theorem dL_law_1131 : decode cL_law 1131 = .ok (.goto (-1113), 3) := by decide +kernel
theorem dL_law_1134 : decode cL_law 1134 = .ok (.iconst 1, 1) := by decide +kernel
theorem dL_law_1135 : decode cL_law 1135 = .ok (.ireturn, 1) := by decide +kernel
end
section
/-! The heap of the system as typed functions: by address and slot (objects) or place (arrays); the kind of each address, the length of each array, the addresses. -/
abbrev Hp : Type := (Nat → Nat → Int32) × (Nat → Nat → Int64) × (Nat → Nat → UInt64) × (Nat → Nat → Option Nat) × (Nat → Nat) × (Nat → Nat) × List Nat
def zI (S : Hp) : Nat → Nat → Int32 := S.1
def zJ (S : Hp) : Nat → Nat → Int64 := S.2.1
def zD (S : Hp) : Nat → Nat → UInt64 := S.2.2.1
def zR (S : Hp) : Nat → Nat → Option Nat := S.2.2.2.1
def zK (S : Hp) : Nat → Nat := S.2.2.2.2.1
def zN (S : Hp) : Nat → Nat := S.2.2.2.2.2.1
def zL (S : Hp) : List Nat := S.2.2.2.2.2.2
def u2 {α : Type} (f : Nat → Nat → α) (a k : Nat) (v : α) : Nat → Nat → α := fun b j => if b = a ∧ j = k then v else f b j
def wI (S : Hp) (a k : Nat) (v : Int32) : Hp := (u2 S.1 a k v, S.2)
def wJ (S : Hp) (a k : Nat) (v : Int64) : Hp := (S.1, u2 S.2.1 a k v, S.2.2)
def wD (S : Hp) (a k : Nat) (v : UInt64) : Hp := (S.1, S.2.1, u2 S.2.2.1 a k v, S.2.2.2)
def wR (S : Hp) (a k : Nat) (v : Option Nat) : Hp := (S.1, S.2.1, S.2.2.1, u2 S.2.2.2.1 a k v, S.2.2.2.2)
/-- a row's new contents -/
def rI (S : Hp) (a : Nat) (f : Nat → Int32) : Hp := ((fun b => if b = a then f else S.1 b), S.2)
def rD (S : Hp) (a : Nat) (f : Nat → UInt64) : Hp := (S.1, S.2.1, (fun b => if b = a then f else S.2.2.1 b), S.2.2.2)
/-- kinds 0 to 6: the classes; a slot and its type (0 int, 1 long, 2 double, 3 a reference) -/
def zs : Nat → List (Nat × Nat)
  | 0 => [(0, 0), (1, 0), (2, 0), (3, 0)]
  | 1 => [(0, 3), (1, 0), (2, 0)]
  | 2 => [(0, 3), (1, 3), (2, 3), (3, 0), (4, 0), (5, 0), (6, 0), (7, 1), (8, 2), (9, 0)]
  | 3 => [(0, 3), (1, 0), (2, 0), (3, 0), (4, 0)]
  | 4 => [(0, 3), (1, 0), (2, 2), (3, 0), (4, 0), (5, 0), (6, 0), (7, 0), (8, 0), (9, 0), (10, 0)]
  | 5 => [(0, 3), (1, 3), (2, 3), (3, 3), (4, 0)]
  | _ => [(0, 3), (1, 3), (2, 3), (3, 3), (4, 3), (5, 3), (6, 0), (7, 0), (8, 0), (9, 3), (10, 0), (11, 0), (12, 0)]
def zv (S : Hp) (a : Nat) (q : Nat × Nat) : Value := match q.2 with
  | 0 => .int (zI S a q.1)
  | 1 => .long (zJ S a q.1)
  | 2 => .double (zD S a q.1)
  | _ => va_rf (zR S a q.1)
def zF (cy : Nat → ClassId) (S : Hp) (a : Nat) : va_E :=
  if zK S a < 7 then .inr (zK S a, (zs (zK S a)).map (zv S a))
  else if zK S a = 7 then .inl (cy 0, zN S a, .inl (zI S a))
  else if zK S a = 8 then .inl (cy 1, zN S a, .inr (.inr (.inr (.inl (zD S a)))))
  else if zK S a = 9 then .inl (cy 2, zN S a, .inl (zI S a))
  else .inl (cy (zK S a - 7), zN S a, .inr (.inr (.inr (.inr (zR S a)))))
def ztys (cy : Nat → ClassId) : List (ClassId × FieldType) := [(cy 0, .char), (cy 1, .double), (cy 2, .int), (cy 3, .object "GlacierGuides$Guide"), (cy 4, .object "GlacierGuides$State"), (cy 5, .object "GlacierGuides$Tour")]
def zP (cy : Nat → ClassId) (S : Hp) : va_W := va_pl (zL S) (zF cy S)
theorem zF_o {cy : Nat → ClassId} {S : Hp} {a c : Nat} (h : zK S a = c) (hc : c < 7) : zF cy S a = .inr (c, (zs c).map (zv S a)) := by
  unfold zF; rw [h, if_pos hc]
theorem zF_c {cy : Nat → ClassId} {S : Hp} {a : Nat} (h : zK S a = 7) : zF cy S a = .inl (cy 0, zN S a, .inl (zI S a)) := by
  unfold zF; rw [h, if_neg (by decide), if_pos rfl]
theorem zF_d {cy : Nat → ClassId} {S : Hp} {a : Nat} (h : zK S a = 8) : zF cy S a = .inl (cy 1, zN S a, .inr (.inr (.inr (.inl (zD S a))))) := by
  unfold zF; rw [h, if_neg (by decide), if_neg (by decide), if_pos rfl]
theorem zF_i {cy : Nat → ClassId} {S : Hp} {a : Nat} (h : zK S a = 9) : zF cy S a = .inl (cy 2, zN S a, .inl (zI S a)) := by
  unfold zF; rw [h, if_neg (by decide), if_neg (by decide), if_neg (by decide), if_pos rfl]
theorem zF_q {cy : Nat → ClassId} {S : Hp} {a c : Nat} (h : zK S a = c) (hc : 10 ≤ c) : zF cy S a = .inl (cy (c - 7), zN S a, .inr (.inr (.inr (.inr (zR S a))))) := by
  unfold zF; rw [h, if_neg (by omega), if_neg (by omega), if_neg (by omega), if_neg (by omega)]
theorem zP_get {cy : Nat → ClassId} {S : Hp} {a : Nat} {e : va_E} (h : a ∈ zL S) (he : zF cy S a = e) : ∃ k : Nat, (zP cy S)[k]? = some (a, e) := by
  subst he
  exact va_pl_get (X := []) (f := zF cy S) h
theorem zP_set {cy : Nat → ClassId} {S S1 : Hp} {A : Nat → Prop} {a k : Nat} {e e1 : va_E} (hD : va_D A (zP cy S)) (h : a ∈ zL S) (hk : (zP cy S)[k]? = some (a, e)) (he : zF cy S a = e) (h1 : zL S1 = zL S) (h2 : zF cy S1 a = e1) (h3 : ∀ b, b ≠ a → zF cy S1 b = zF cy S b) : (zP cy S).set k (a, e1) = zP cy S1 := by
  have hk' : ([] ++ va_pl (zL S) (zF cy S))[k]? = some (a, zF cy S a) := by rw [he]; exact hk
  have := va_pl_set (X := []) (e := e1) (f := zF cy S) (L := zL S) (A := A) hD h hk'
  unfold zP
  rw [h1]
  refine Eq.trans this ?_
  show va_pl (zL S) _ = _
  exact va_pl_congr (fun b => by
    by_cases hb : b = a
    · subst hb; rw [va_up_self, h2]
    · rw [va_up_ne _ _ hb, h3 b hb])
theorem u2_self {α : Type} (f : Nat → Nat → α) (a k : Nat) (v : α) : u2 f a k v a k = v := if_pos ⟨rfl, rfl⟩
theorem u2_ne {α : Type} (f : Nat → Nat → α) {a k b : Nat} (v : α) (h : b ≠ a) (j : Nat) : u2 f a k v b j = f b j := if_neg (fun q => h q.1)
theorem u2_nek {α : Type} (f : Nat → Nat → α) {a k b j : Nat} (v : α) (h : j ≠ k) : u2 f a k v b j = f b j := if_neg (fun q => h q.2)
theorem u2_row {α : Type} (f : Nat → Nat → α) {a k b : Nat} (v : α) (h : b ≠ a) : u2 f a k v b = f b := funext fun j => u2_ne f v h j
theorem u2_upd (f : Nat → Nat → Int32) (a k : Nat) (v : Int32) : u2 f a k v a = upd (f a) k v := by
  funext j
  by_cases h : j = k
  · subst h; simp [u2, upd]
  · simp [u2, upd, h]
theorem u2_vupd (f : Nat → Nat → UInt64) (a k : Nat) (v : UInt64) : u2 f a k v a = vf_upd (f a) k v := by
  funext j
  by_cases h : j = k
  · subst h; simp [u2, vf_upd]
  · simp [u2, vf_upd, h]
theorem zs_fst_aux (l : List (Nat × Nat)) (hl : (List.range l.length).all (fun i => decide ((l[i]?.map (fun q => q.1)) = some i)) = true) (k : Nat) (q : Nat × Nat) (h : l[k]? = some q) : q.1 = k := by
  have hk : k < l.length := (List.getElem?_eq_some_iff.mp h).1
  have := List.all_eq_true.mp hl k (List.mem_range.mpr hk)
  have := of_decide_eq_true this
  rw [h] at this
  exact Option.some.inj this
theorem zs_fst (c k : Nat) (q : Nat × Nat) (h : (zs c)[k]? = some q) : q.1 = k := by
  match c, h with
  | 0, h => exact zs_fst_aux _ (by decide) k q h
  | 1, h => exact zs_fst_aux _ (by decide) k q h
  | 2, h => exact zs_fst_aux _ (by decide) k q h
  | 3, h => exact zs_fst_aux _ (by decide) k q h
  | 4, h => exact zs_fst_aux _ (by decide) k q h
  | 5, h => exact zs_fst_aux _ (by decide) k q h
  | n + 6, h => exact zs_fst_aux [(0, 3), (1, 3), (2, 3), (3, 3), (4, 3), (5, 3), (6, 0), (7, 0), (8, 0), (9, 3), (10, 0), (11, 0), (12, 0)] (by decide) k q h
/-- an object's row after a write of one of its slots -/
theorem zv_set {S S1 : Hp} {a k t c : Nat} {v : Value} (hz : (zs c)[k]? = some (k, t)) (hv : zv S1 a (k, t) = v) (ho : ∀ j u, j ≠ k → zv S1 a (j, u) = zv S a (j, u)) : ((zs c).map (zv S a)).set k v = (zs c).map (zv S1 a) := by
  apply List.ext_getElem?
  intro j
  rw [List.getElem?_set, List.getElem?_map, List.getElem?_map]
  by_cases hj : k = j
  · subst hj
    have hk : k < (zs c).length := (List.getElem?_eq_some_iff.mp hz).1
    rw [if_pos rfl, if_pos (by rw [List.length_map]; exact hk), hz]
    show some v = some _
    rw [hv]
  · rw [if_neg hj]
    cases hq : (zs c)[j]? with
    | none => rfl
    | some q =>
      obtain ⟨q1, q2⟩ := q
      have : q1 = j := zs_fst c j _ hq
      subst this
      show some (zv S a (q1, q2)) = some (zv S1 a (q1, q2))
      rw [ho q1 q2 (fun e => hj e.symm)]
/-! the walk's context: program, launch, env, room, start, method, arguments, frames below, method, code, goal; classes' numbers and slots, arrays' classes, what may change, locals -/
abbrev Cx : Type := Program × Launch × Env × Room × State × MethodId × Array Value × List Frame × Method × Code × (State → Prop) × va_G × (Nat → ClassId) × (Nat → Prop) × Nat
abbrev xp (X : Cx) : Program := X.1
abbrev xl (X : Cx) : Launch := X.2.1
abbrev xe (X : Cx) : Env := X.2.2.1
abbrev xR (X : Cx) : Room := X.2.2.2.1
abbrev xs (X : Cx) : State := X.2.2.2.2.1
abbrev xm (X : Cx) : MethodId := X.2.2.2.2.2.1
abbrev xa (X : Cx) : Array Value := X.2.2.2.2.2.2.1
abbrev xb (X : Cx) : List Frame := X.2.2.2.2.2.2.2.1
abbrev xM (X : Cx) : Method := X.2.2.2.2.2.2.2.2.1
abbrev xc (X : Cx) : Code := X.2.2.2.2.2.2.2.2.2.1
abbrev xQ (X : Cx) : State → Prop := X.2.2.2.2.2.2.2.2.2.2.1
abbrev xG (X : Cx) : va_G := X.2.2.2.2.2.2.2.2.2.2.2.1
abbrev xy (X : Cx) : Nat → ClassId := X.2.2.2.2.2.2.2.2.2.2.2.2.1
abbrev xA (X : Cx) : Nat → Prop := X.2.2.2.2.2.2.2.2.2.2.2.2.2.1
abbrev xn (X : Cx) : Nat := X.2.2.2.2.2.2.2.2.2.2.2.2.2.2
def GW (X : Cx) (k n : Nat) (S : Hp) (pc : Nat) (lv : List (Nat × Value)) (st : List Value) : Prop :=
  ∀ (H : Heap) (locs : List Loc) (ls : Array Slot), va_P (xG X) vwCl (zP (xy X) S) H → va_D (xA X) (zP (xy X) S) → va_S (xA X) (xs X).heap H locs → lv_has ls (xn X) lv →
    W (xp X) (xl X) (xe X) (xR X) (xs X) (xm X) (xa X) (xb X) (xM X) (xc X) H locs k n (xQ X) (F0 (xm X) pc ls st)
def CxOK (X : Cx) (cc : ByteArray) (own : String) (rm : Room) : Prop :=
  (xp X).tables.exec = Jvm.exec ∧ (xc X).code = cc ∧ (xc X).maxLocals = xn X ∧ (xs X).vm.findClass own = some (xm X).cls ∧ (∀ w ∈ wsL_law, w.before (xa X) (xs X) = true) ∧ va_K (xG X) vwCl (ztys (xy X)) (xs X) ∧ (∀ q : Nat, (xs X).heap.size ≤ q → xA X q) ∧ (xM X).locks = false ∧ xR X = rm
/-! the words of a method's picture: guards and writes, each with what comes behind -/
def ob {β : Type} (S : Hp) (c : Nat) (r : Option Nat) (k : Nat → Option β) : Option β := match r with
  | none => none
  | some a => if a ∈ zL S ∧ zK S a = c then k a else none
def ar {β : Type} (S : Hp) (c : Nat) (r : Option Nat) (i : Int32) (k : Nat → Nat → Option β) : Option β := match r with
  | none => none
  | some a => if a ∈ zL S ∧ zK S a = c ∧ ¬ (i < 0 ∨ zN S a ≤ i.toNatClampNeg) then k a i.toNatClampNeg else none
def bnd {α β : Type} (x : α) (k : α → Option β) : Option β := k x
def cl {α β : Type} (x : Option (α × Hp)) (k : α → Hp → Option β) : Option β := match x with
  | none => none
  | some q => k q.1 q.2
def gd {β : Type} (c : Prop) [Decidable c] (k : Option β) : Option β := if c then k else none
theorem ob_el {β : Type} {S : Hp} {c : Nat} {r : Option Nat} {k : Nat → Option β} {o : β} (h : ob S c r k = some o) : ∃ a, r = some a ∧ a ∈ zL S ∧ zK S a = c ∧ k a = some o := by
  cases r with
  | none => cases h
  | some a =>
    by_cases hc : a ∈ zL S ∧ zK S a = c
    · have h2 : k a = some o := by
        have : ob S c (some a) k = k a := if_pos hc
        rw [this] at h; exact h
      exact ⟨a, rfl, hc.1, hc.2, h2⟩
    · have : ob S c (some a) k = none := if_neg hc
      rw [this] at h; cases h
theorem ar_el {β : Type} {S : Hp} {c : Nat} {r : Option Nat} {i : Int32} {k : Nat → Nat → Option β} {o : β} (h : ar S c r i k = some o) : ∃ a, r = some a ∧ a ∈ zL S ∧ zK S a = c ∧ vp_in i (zN S a) ∧ k a i.toNatClampNeg = some o := by
  cases r with
  | none => cases h
  | some a =>
    by_cases hc : a ∈ zL S ∧ zK S a = c ∧ ¬ (i < 0 ∨ zN S a ≤ i.toNatClampNeg)
    · have h2 : k a i.toNatClampNeg = some o := by
        have : ar S c (some a) i k = k a i.toNatClampNeg := if_pos hc
        rw [this] at h; exact h
      exact ⟨a, rfl, hc.1, hc.2.1, hc.2.2, h2⟩
    · have : ar S c (some a) i k = none := if_neg hc
      rw [this] at h; cases h
theorem cl_el {α β : Type} {x : Option (α × Hp)} {k : α → Hp → Option β} {o : β} (h : cl x k = some o) : ∃ r S, x = some (r, S) ∧ k r S = some o := by
  cases x with
  | none => cases h
  | some q => exact ⟨q.1, q.2, rfl, h⟩
theorem gd_el {β : Type} {c : Prop} [Decidable c] {k : Option β} {o : β} (h : gd c k = some o) : c ∧ k = some o := by
  by_cases hc : c
  · exact ⟨hc, by unfold gd at h; rwa [if_pos hc] at h⟩
  · unfold gd at h; rw [if_neg hc] at h; cases h
theorem if_el1 {β : Type} {c : Prop} [Decidable c] {A B : Option β} {o : β} (h : (if c then A else B) = some o) (hc : c) : A = some o := by rwa [if_pos hc] at h
theorem if_el2 {β : Type} {c : Prop} [Decidable c] {A B : Option β} {o : β} (h : (if c then A else B) = some o) (hc : ¬ c) : B = some o := by rwa [if_neg hc] at h
/-! the words of a method's picture, by what they do when all is well (for the pure part) -/
theorem ob_go {β : Type} {S : Hp} {c a : Nat} {k : Nat → Option β} (h1 : a ∈ zL S) (h2 : zK S a = c) : ob S c (some a) k = k a := if_pos ⟨h1, h2⟩
theorem ar_go {β : Type} {S : Hp} {c a : Nat} {i : Int32} {k : Nat → Nat → Option β} (h1 : a ∈ zL S) (h2 : zK S a = c) (h3 : vp_in i (zN S a)) : ar S c (some a) i k = k a i.toNatClampNeg := if_pos ⟨h1, h2, h3⟩
theorem cl_go {α β : Type} {r : α} {S : Hp} {k : α → Hp → Option β} : cl (some (r, S)) k = k r S := rfl
theorem gd_go {β : Type} {c : Prop} [Decidable c] {k : Option β} (h : c) : gd c k = k := if_pos h
/-! contracts -/
def CtP (As : List Value) (S : Hp) (D : va_G) (cy : Nat → ClassId) (sz : Nat) : Array Value → State → Prop := va_Pc As (fun U => U.heap.size = sz ∧ va_P D vwCl (zP cy S) U.heap ∧ va_K D vwCl (ztys cy) U ∧ va_D (fun _ => True) (zP cy S))
def CtB (S S' : Hp) (D : va_G) (cy : Nat → ClassId) (sz : Nat) : Unit → State → Prop := fun _ t => va_P D vwCl (zP cy S') t.heap ∧ va_K D vwCl (ztys cy) t ∧ va_D (va_A (zP cy S) sz) (zP cy S')
def CtI (y : MethodName) (cc : ByteArray) (nL : Nat) (ret : Option FieldType) (rm : Room) (mc ms : Nat) (As : List Value) (S : Hp) (o : Int32 × Hp) : Prop := ∀ (l : Launch) (D : va_G) (cy : Nat → ClassId) (sz : Nat), Met l y (.code y cc nL ret :: wsL_law) rm (CtP As S D cy sz) (va_Qi (fun r (_ : Unit) => r = o.1) (CtB S o.2 D cy sz) (va_A (zP cy S) sz)) mc ms (va_A (zP cy S) sz)
def CtJ (y : MethodName) (cc : ByteArray) (nL : Nat) (ret : Option FieldType) (rm : Room) (mc ms : Nat) (As : List Value) (S : Hp) (o : Int64 × Hp) : Prop := ∀ (l : Launch) (D : va_G) (cy : Nat → ClassId) (sz : Nat), Met l y (.code y cc nL ret :: wsL_law) rm (CtP As S D cy sz) (va_Ql (fun r (_ : Unit) => r = o.1) (CtB S o.2 D cy sz) (va_A (zP cy S) sz)) mc ms (va_A (zP cy S) sz)
def CtD (y : MethodName) (cc : ByteArray) (nL : Nat) (ret : Option FieldType) (rm : Room) (mc ms : Nat) (As : List Value) (S : Hp) (o : UInt64 × Hp) : Prop := ∀ (l : Launch) (D : va_G) (cy : Nat → ClassId) (sz : Nat), Met l y (.code y cc nL ret :: wsL_law) rm (CtP As S D cy sz) (va_Qd (fun r (_ : Unit) => r = o.1) (CtB S o.2 D cy sz) (va_A (zP cy S) sz)) mc ms (va_A (zP cy S) sz)
def CtR (y : MethodName) (cc : ByteArray) (nL : Nat) (ret : Option FieldType) (rm : Room) (mc ms : Nat) (As : List Value) (S : Hp) (o : Option Nat × Hp) : Prop := ∀ (l : Launch) (D : va_G) (cy : Nat → ClassId) (sz : Nat), Met l y (.code y cc nL ret :: wsL_law) rm (CtP As S D cy sz) (va_Qq (fun r (_ : Unit) => r = o.1) (CtB S o.2 D cy sz) (va_A (zP cy S) sz)) mc ms (va_A (zP cy S) sz)
def CtV (y : MethodName) (cc : ByteArray) (nL : Nat) (ret : Option FieldType) (rm : Room) (mc ms : Nat) (As : List Value) (S : Hp) (o : Unit × Hp) : Prop := ∀ (l : Launch) (D : va_G) (cy : Nat → ClassId) (sz : Nat), Met l y (.code y cc nL ret :: wsL_law) rm (CtP As S D cy sz) (va_Qv (fun (_ : Unit) => True) (CtB S o.2 D cy sz) (va_A (zP cy S) sz)) mc ms (va_A (zP cy S) sz)
/-- what a context says of its method's end: its type, and the goal -/
def QQ (X : Cx) (ret : Option FieldType) (S0 : Hp) (mc ms : Nat) (Qc : Array Value → State → Outcome → State → Prop) : Prop := (xM X).sig.returnType = ret ∧ xQ X = MQ (xb X) Qc (xa X) (xs X) mc ms (xA X) ∧ xA X = va_A (zP (xy X) S0) (xs X).heap.size
def QI (X : Cx) (ret : Option FieldType) (S0 : Hp) (mc ms : Nat) (o : Int32 × Hp) : Prop := QQ X ret S0 mc ms (va_Qi (fun r (_ : Unit) => r = o.1) (CtB S0 o.2 (xG X) (xy X) (xs X).heap.size) (xA X))
def QJ (X : Cx) (ret : Option FieldType) (S0 : Hp) (mc ms : Nat) (o : Int64 × Hp) : Prop := QQ X ret S0 mc ms (va_Ql (fun r (_ : Unit) => r = o.1) (CtB S0 o.2 (xG X) (xy X) (xs X).heap.size) (xA X))
def QD (X : Cx) (ret : Option FieldType) (S0 : Hp) (mc ms : Nat) (o : UInt64 × Hp) : Prop := QQ X ret S0 mc ms (va_Qd (fun r (_ : Unit) => r = o.1) (CtB S0 o.2 (xG X) (xy X) (xs X).heap.size) (xA X))
def QR (X : Cx) (ret : Option FieldType) (S0 : Hp) (mc ms : Nat) (o : Option Nat × Hp) : Prop := QQ X ret S0 mc ms (va_Qq (fun r (_ : Unit) => r = o.1) (CtB S0 o.2 (xG X) (xy X) (xs X).heap.size) (xA X))
def QV (X : Cx) (ret : Option FieldType) (S0 : Hp) (mc ms : Nat) (o : Unit × Hp) : Prop := QQ X ret S0 mc ms (va_Qv (fun (_ : Unit) => True) (CtB S0 o.2 (xG X) (xy X) (xs X).heap.size) (xA X))
theorem ct_bl {As : List Value} {S : Hp} {D : va_G} {cy : Nat → ClassId} {sz : Nat} : FrameBlind (CtP As S D cy sz) := fun a U g mk q => by
  obtain ⟨q0, q1, qP, qK, qD⟩ := q
  exact ⟨q0, q1, qP, va_K.moved (u := U) (U := U.calling g mk a) (Vm.Alike.refl U.vm) qK, qD⟩
theorem ct_entry {y : MethodName} {cc : ByteArray} {nL : Nat} {ret : Option FieldType} {rm : Room} {mc ms : Nat} {As : List Value} {S : Hp} {own : String} {l : Launch} {D : va_G} {cy : Nat → ClassId} {sz : Nat} {Qc : Array Value → State → Outcome → State → Prop}
    (hy : plainName y.cls = true) (hcls : y.cls = own) (hlen : (lg_sl As).length ≤ nL) (body : ∀ X : Cx, CxOK X cc own rm → xn X = nL → xG X = D → xy X = cy → (xs X).heap.size = sz → QQ X ret S mc ms Qc → GW X 0 0 S 0 (lv_args 0 As) []) :
    Met l y (.code y cc nL ret :: wsL_law) rm (CtP As S D cy sz) Qc mc ms (va_A (zP cy S) sz) := by
  refine Met.ofW (cc := cc) (maxL := nL) (ret := ret) hy rfl ?_
  intro p e s m args below meth c s₁ B hml hv
  obtain ⟨rfl, hsz, hP, hK, hD0⟩ := hv
  have hts := atoms_spec (ws := .code y cc nL ret :: wsL_law) B.pre
  have hown : s.vm.findClass own = some m.cls := hcls ▸ findClass_of_methodNamed B.named
  subst hsz
  have hD := hD0.self (sz := s.heap.size)
  have hl := lv_entry As (n := nL) hlen
  rw [lg_entry_eq]
  exact body (p, l, e, rm, s, m, As.toArray, below, meth, c, MQ below Qc As.toArray s mc ms (va_A (zP cy S) s.heap.size), D, cy, va_A (zP cy S) s.heap.size, nL)
    ⟨B.exec, B.bytes, hml, hown, fun w h => hts w (List.mem_cons_of_mem _ h), hK, fun q h => Or.inr h, B.notSynchronized, rfl⟩ rfl rfl rfl rfl ⟨B.returns, rfl, rfl⟩ _ _ _ hP hD va_S.rf hl
theorem ct_I {y : MethodName} {cc : ByteArray} {nL : Nat} {ret : Option FieldType} {rm : Room} {mc ms : Nat} {As : List Value} {S : Hp} {own : String} {o : Int32 × Hp} (hy : plainName y.cls = true) (hcls : y.cls = own) (hlen : (lg_sl As).length ≤ nL)
    (body : ∀ X : Cx, CxOK X cc own rm → xn X = nL → QI X ret S mc ms o → GW X 0 0 S 0 (lv_args 0 As) []) : CtI y cc nL ret rm mc ms As S o := fun l D cy sz => ct_entry hy hcls hlen (fun X h1 h2 h3 h4 h5 h6 => body X h1 h2 (by
  have h7 := h6.2.2
  subst h3; subst h4; subst h5
  unfold QI; rw [h7]; exact h6))
theorem ct_J {y : MethodName} {cc : ByteArray} {nL : Nat} {ret : Option FieldType} {rm : Room} {mc ms : Nat} {As : List Value} {S : Hp} {own : String} {o : Int64 × Hp} (hy : plainName y.cls = true) (hcls : y.cls = own) (hlen : (lg_sl As).length ≤ nL)
    (body : ∀ X : Cx, CxOK X cc own rm → xn X = nL → QJ X ret S mc ms o → GW X 0 0 S 0 (lv_args 0 As) []) : CtJ y cc nL ret rm mc ms As S o := fun l D cy sz => ct_entry hy hcls hlen (fun X h1 h2 h3 h4 h5 h6 => body X h1 h2 (by
  have h7 := h6.2.2
  subst h3; subst h4; subst h5
  unfold QJ; rw [h7]; exact h6))
theorem ct_D {y : MethodName} {cc : ByteArray} {nL : Nat} {ret : Option FieldType} {rm : Room} {mc ms : Nat} {As : List Value} {S : Hp} {own : String} {o : UInt64 × Hp} (hy : plainName y.cls = true) (hcls : y.cls = own) (hlen : (lg_sl As).length ≤ nL)
    (body : ∀ X : Cx, CxOK X cc own rm → xn X = nL → QD X ret S mc ms o → GW X 0 0 S 0 (lv_args 0 As) []) : CtD y cc nL ret rm mc ms As S o := fun l D cy sz => ct_entry hy hcls hlen (fun X h1 h2 h3 h4 h5 h6 => body X h1 h2 (by
  have h7 := h6.2.2
  subst h3; subst h4; subst h5
  unfold QD; rw [h7]; exact h6))
theorem ct_R {y : MethodName} {cc : ByteArray} {nL : Nat} {ret : Option FieldType} {rm : Room} {mc ms : Nat} {As : List Value} {S : Hp} {own : String} {o : Option Nat × Hp} (hy : plainName y.cls = true) (hcls : y.cls = own) (hlen : (lg_sl As).length ≤ nL)
    (body : ∀ X : Cx, CxOK X cc own rm → xn X = nL → QR X ret S mc ms o → GW X 0 0 S 0 (lv_args 0 As) []) : CtR y cc nL ret rm mc ms As S o := fun l D cy sz => ct_entry hy hcls hlen (fun X h1 h2 h3 h4 h5 h6 => body X h1 h2 (by
  have h7 := h6.2.2
  subst h3; subst h4; subst h5
  unfold QR; rw [h7]; exact h6))
theorem ct_V {y : MethodName} {cc : ByteArray} {nL : Nat} {ret : Option FieldType} {rm : Room} {mc ms : Nat} {As : List Value} {S : Hp} {own : String} {o : Unit × Hp} (hy : plainName y.cls = true) (hcls : y.cls = own) (hlen : (lg_sl As).length ≤ nL)
    (body : ∀ X : Cx, CxOK X cc own rm → xn X = nL → QV X ret S mc ms o → GW X 0 0 S 0 (lv_args 0 As) []) : CtV y cc nL ret rm mc ms As S o := fun l D cy sz => ct_entry hy hcls hlen (fun X h1 h2 h3 h4 h5 h6 => body X h1 h2 (by
  have h7 := h6.2.2
  subst h3; subst h4; subst h5
  unfold QV; rw [h7]; exact h6))
end
section
/-! the rows: an instruction, a row; the heap's words behind GW -/
section GR
variable {X : Cx} {cc : ByteArray} {own : String} {rm : Room} {k n pc : Nat} {S : Hp} {lv lv' : List (Nat × Value)} {st : List Value}
theorem g_iconst (C : CxOK X cc own rm) {i : Int} {v : Int32} (hdg : decode cc pc = .ok (.iconst i, 1)) (hv : Int32.ofInt i = v) (kk : GW X k n S (pc + 1) lv (.int v :: st)) : GW X k n S pc lv st := fun H locs ls hP hD hS hl => lv_iconst C.1 C.2.1 hdg hv (kk H locs ls hP hD hS hl)
theorem g_bipush (C : CxOK X cc own rm) {i : Int} {v : Int32} (hdg : decode cc pc = .ok (.bipush i, 2)) (hv : (Int8.ofInt i).toInt32 = v) (kk : GW X k n S (pc + 2) lv (.int v :: st)) : GW X k n S pc lv st := fun H locs ls hP hD hS hl => lv_bipush C.1 C.2.1 hdg hv (kk H locs ls hP hD hS hl)
theorem g_sipush (C : CxOK X cc own rm) {i : Int} {v : Int32} (hdg : decode cc pc = .ok (.sipush i, 3)) (hv : (Int16.ofInt i).toInt32 = v) (kk : GW X k n S (pc + 3) lv (.int v :: st)) : GW X k n S pc lv st := fun H locs ls hP hD hS hl => lv_sipush C.1 C.2.1 hdg hv (kk H locs ls hP hD hS hl)
theorem g_lconst (C : CxOK X cc own rm) {i : Fin 2} {v : Int64} (hdg : decode cc pc = .ok (.lconst i, 1)) (hv : Int64.ofNat (i : Nat) = v) (kk : GW X k n S (pc + 1) lv (.long v :: st)) : GW X k n S pc lv st := fun H locs ls hP hD hS hl => lv_lconst C.1 C.2.1 hdg hv (kk H locs ls hP hD hS hl)
theorem g_dconst0 (C : CxOK X cc own rm) (hdg : decode cc pc = .ok (.dconst 0, 1)) (kk : GW X k n S (pc + 1) lv (.double FP.dconst0 :: st)) : GW X k n S pc lv st := fun H locs ls hP hD hS hl => lv_dconst0 C.1 C.2.1 hdg (kk H locs ls hP hD hS hl)
theorem g_dconst1 (C : CxOK X cc own rm) (hdg : decode cc pc = .ok (.dconst 1, 1)) (kk : GW X k n S (pc + 1) lv (.double FP.dconst1 :: st)) : GW X k n S pc lv st := fun H locs ls hP hD hS hl => lv_dconst1 C.1 C.2.1 hdg (kk H locs ls hP hD hS hl)
theorem g_ldc2d (C : CxOK X cc own rm) {index : Nat} {v : UInt64} (hw : Cond.constantDouble own index v ∈ wsL_law) (hdg : decode cc pc = .ok (.ldc2_w index, 3)) (kk : GW X k n S (pc + 3) lv (.double v :: st)) : GW X k n S pc lv st := fun H locs ls hP hD hS hl => lv_ldc2d C.1 C.2.1 C.2.2.2.1 (C.2.2.2.2.1 _ hw) hdg (kk H locs ls hP hD hS hl)
theorem g_ldc2l (C : CxOK X cc own rm) {index : Nat} {v : Int64} (hw : Cond.constantLong own index v ∈ wsL_law) (hdg : decode cc pc = .ok (.ldc2_w index, 3)) (kk : GW X k n S (pc + 3) lv (.long v :: st)) : GW X k n S pc lv st := fun H locs ls hP hD hS hl => lv_ldc2 C.1 C.2.1 C.2.2.2.1 (C.2.2.2.2.1 _ hw) hdg (kk H locs ls hP hD hS hl)
-- loads
theorem g_iload_n (C : CxOK X cc own rm) {f : Fin 4} {i q : Nat} {x : Int32} (hdg : decode cc pc = .ok (.iload_n f, 1)) (hi : (f : Nat) = i) (hq : lv[q]? = some (i, .int x)) (kk : GW X k n S (pc + 1) lv (.int x :: st)) : GW X k n S pc lv st := fun H locs ls hP hD hS hl => lv_iload_n C.1 C.2.1 hdg hi (lv_at hl q hq) (kk H locs ls hP hD hS hl)
theorem g_iload (C : CxOK X cc own rm) {i q : Nat} {x : Int32} (hdg : decode cc pc = .ok (.iload i, 2)) (hq : lv[q]? = some (i, .int x)) (kk : GW X k n S (pc + 2) lv (.int x :: st)) : GW X k n S pc lv st := fun H locs ls hP hD hS hl => lv_iload C.1 C.2.1 hdg (lv_at hl q hq) (kk H locs ls hP hD hS hl)
theorem g_lload_n (C : CxOK X cc own rm) {f : Fin 4} {i q : Nat} {x : Int64} (hdg : decode cc pc = .ok (.lload_n f, 1)) (hi : (f : Nat) = i) (hq : lv[q]? = some (i, .long x)) (kk : GW X k n S (pc + 1) lv (.long x :: st)) : GW X k n S pc lv st := fun H locs ls hP hD hS hl => lv_lload_n C.1 C.2.1 hdg hi (lv_at hl q hq) (kk H locs ls hP hD hS hl)
theorem g_lload (C : CxOK X cc own rm) {i q : Nat} {x : Int64} (hdg : decode cc pc = .ok (.lload i, 2)) (hq : lv[q]? = some (i, .long x)) (kk : GW X k n S (pc + 2) lv (.long x :: st)) : GW X k n S pc lv st := fun H locs ls hP hD hS hl => lv_lload C.1 C.2.1 hdg (lv_at hl q hq) (kk H locs ls hP hD hS hl)
theorem g_dload_n (C : CxOK X cc own rm) {f : Fin 4} {i q : Nat} {x : UInt64} (hdg : decode cc pc = .ok (.dload_n f, 1)) (hi : (f : Nat) = i) (hq : lv[q]? = some (i, .double x)) (kk : GW X k n S (pc + 1) lv (.double x :: st)) : GW X k n S pc lv st := fun H locs ls hP hD hS hl => lv_dload_n C.1 C.2.1 hdg hi (lv_at hl q hq) (kk H locs ls hP hD hS hl)
theorem g_dload (C : CxOK X cc own rm) {i q : Nat} {x : UInt64} (hdg : decode cc pc = .ok (.dload i, 2)) (hq : lv[q]? = some (i, .double x)) (kk : GW X k n S (pc + 2) lv (.double x :: st)) : GW X k n S pc lv st := fun H locs ls hP hD hS hl => lv_dload C.1 C.2.1 hdg (lv_at hl q hq) (kk H locs ls hP hD hS hl)
theorem g_aload_n (C : CxOK X cc own rm) {f : Fin 4} {i q : Nat} {x : Option Nat} (hdg : decode cc pc = .ok (.aload_n f, 1)) (hi : (f : Nat) = i) (hq : lv[q]? = some (i, va_rf x)) (kk : GW X k n S (pc + 1) lv (va_rf x :: st)) : GW X k n S pc lv st := by
  cases x with
  | none => exact fun H locs ls hP hD hS hl => lv_aload_nN C.1 C.2.1 hdg hi (lv_at hl q hq) (kk H locs ls hP hD hS hl)
  | some a => exact fun H locs ls hP hD hS hl => lv_aload_n C.1 C.2.1 hdg hi (lv_at hl q hq) (kk H locs ls hP hD hS hl)
theorem g_aload (C : CxOK X cc own rm) {i q : Nat} {x : Option Nat} (hdg : decode cc pc = .ok (.aload i, 2)) (hq : lv[q]? = some (i, va_rf x)) (kk : GW X k n S (pc + 2) lv (va_rf x :: st)) : GW X k n S pc lv st := by
  cases x with
  | none => exact fun H locs ls hP hD hS hl => lv_aloadN C.1 C.2.1 hdg (lv_at hl q hq) (kk H locs ls hP hD hS hl)
  | some a => exact fun H locs ls hP hD hS hl => lv_aload C.1 C.2.1 hdg (lv_at hl q hq) (kk H locs ls hP hD hS hl)
-- stores
theorem g_istore_n (C : CxOK X cc own rm) {f : Fin 4} {i : Nat} {x : Int32} (hdg : decode cc pc = .ok (.istore_n f, 1)) (hi : (f : Nat) = i) (hn : i < xn X) (hl : (i, Value.int x) :: lv.filter (fun q => !(q.1 == i) && !(q.1 + 1 == i && q.2.category == 2)) = lv') (kk : GW X k n S (pc + 1) lv' st) : GW X k n S pc lv (.int x :: st) := fun H locs ls hP hD hS h => lv_istore_n C.1 C.2.1 hdg hi h hn hl (fun ls h => kk H locs ls hP hD hS h)
theorem g_istore (C : CxOK X cc own rm) {i : Nat} {x : Int32} (hdg : decode cc pc = .ok (.istore i, 2)) (hn : i < xn X) (hl : (i, Value.int x) :: lv.filter (fun q => !(q.1 == i) && !(q.1 + 1 == i && q.2.category == 2)) = lv') (kk : GW X k n S (pc + 2) lv' st) : GW X k n S pc lv (.int x :: st) := fun H locs ls hP hD hS h => lv_istore C.1 C.2.1 hdg h hn hl (fun ls h => kk H locs ls hP hD hS h)
theorem g_lstore_n (C : CxOK X cc own rm) {f : Fin 4} {i : Nat} {x : Int64} (hdg : decode cc pc = .ok (.lstore_n f, 1)) (hi : (f : Nat) = i) (hn : i + 1 < xn X) (hl : (i, Value.long x) :: lv.filter (fun q => !(q.1 == i) && (!(q.1 == i + 1) && !(q.1 + 1 == i && q.2.category == 2))) = lv') (kk : GW X k n S (pc + 1) lv' st) : GW X k n S pc lv (.long x :: st) := fun H locs ls hP hD hS h => lv_lstore_n C.1 C.2.1 hdg hi h hn hl (fun ls h => kk H locs ls hP hD hS h)
theorem g_lstore (C : CxOK X cc own rm) {i : Nat} {x : Int64} (hdg : decode cc pc = .ok (.lstore i, 2)) (hn : i + 1 < xn X) (hl : (i, Value.long x) :: lv.filter (fun q => !(q.1 == i) && (!(q.1 == i + 1) && !(q.1 + 1 == i && q.2.category == 2))) = lv') (kk : GW X k n S (pc + 2) lv' st) : GW X k n S pc lv (.long x :: st) := fun H locs ls hP hD hS h => lv_lstore C.1 C.2.1 hdg h hn hl (fun ls h => kk H locs ls hP hD hS h)
theorem g_dstore_n (C : CxOK X cc own rm) {f : Fin 4} {i : Nat} {x : UInt64} (hdg : decode cc pc = .ok (.dstore_n f, 1)) (hi : (f : Nat) = i) (hn : i + 1 < xn X) (hl : (i, Value.double x) :: lv.filter (fun q => !(q.1 == i) && (!(q.1 == i + 1) && !(q.1 + 1 == i && q.2.category == 2))) = lv') (kk : GW X k n S (pc + 1) lv' st) : GW X k n S pc lv (.double x :: st) := fun H locs ls hP hD hS h => lv_dstore_n C.1 C.2.1 hdg hi h hn hl (fun ls h => kk H locs ls hP hD hS h)
theorem g_dstore (C : CxOK X cc own rm) {i : Nat} {x : UInt64} (hdg : decode cc pc = .ok (.dstore i, 2)) (hn : i + 1 < xn X) (hl : (i, Value.double x) :: lv.filter (fun q => !(q.1 == i) && (!(q.1 == i + 1) && !(q.1 + 1 == i && q.2.category == 2))) = lv') (kk : GW X k n S (pc + 2) lv' st) : GW X k n S pc lv (.double x :: st) := fun H locs ls hP hD hS h => lv_dstore C.1 C.2.1 hdg h hn hl (fun ls h => kk H locs ls hP hD hS h)
theorem g_astore_n (C : CxOK X cc own rm) {f : Fin 4} {i : Nat} {x : Option Nat} (hdg : decode cc pc = .ok (.astore_n f, 1)) (hi : (f : Nat) = i) (hn : i < xn X) (hl : (i, va_rf x) :: lv.filter (fun q => !(q.1 == i) && !(q.1 + 1 == i && q.2.category == 2)) = lv') (kk : GW X k n S (pc + 1) lv' st) : GW X k n S pc lv (va_rf x :: st) := by
  cases x with
  | none => exact fun H locs ls hP hD hS h => lv_astore_nN C.1 C.2.1 hdg hi h hn hl (fun ls h => kk H locs ls hP hD hS h)
  | some a => exact fun H locs ls hP hD hS h => lv_astore_n C.1 C.2.1 hdg hi h hn hl (fun ls h => kk H locs ls hP hD hS h)
theorem g_astore (C : CxOK X cc own rm) {i : Nat} {x : Option Nat} (hdg : decode cc pc = .ok (.astore i, 2)) (hn : i < xn X) (hl : (i, va_rf x) :: lv.filter (fun q => !(q.1 == i) && !(q.1 + 1 == i && q.2.category == 2)) = lv') (kk : GW X k n S (pc + 2) lv' st) : GW X k n S pc lv (va_rf x :: st) := by
  cases x with
  | none => exact fun H locs ls hP hD hS h => lv_astoreN C.1 C.2.1 hdg h hn hl (fun ls h => kk H locs ls hP hD hS h)
  | some a => exact fun H locs ls hP hD hS h => lv_astore C.1 C.2.1 hdg h hn hl (fun ls h => kk H locs ls hP hD hS h)
theorem g_iinc (C : CxOK X cc own rm) {i q : Nat} {d : Int} {x : Int32} (v : Int32) (hdg : decode cc pc = .ok (.iinc i d, 3)) (hq : lv[q]? = some (i, .int x)) (hv : x + Int32.ofInt d = v) (hn : i < xn X) (hl : (i, Value.int v) :: lv.filter (fun q => !(q.1 == i) && !(q.1 + 1 == i && q.2.category == 2)) = lv') (kk : GW X k n S (pc + 3) lv' st) : GW X k n S pc lv st := fun H locs ls hP hD hS h => lv_iinc (v := v) C.1 C.2.1 hdg h hq hv hn hl (fun ls h => kk H locs ls hP hD hS h)
theorem g_sub (ks : List Nat) (hl : lv_pick lv ks = lv') (kk : GW X k n S pc lv' st) : GW X k n S pc lv st := fun H locs ls hP hD hS h => kk H locs ls hP hD hS (lv_sub h ks hl)
-- names of the top
theorem g_topi {x : Int32} (kk : ∀ y : Int32, y = x → GW X k n S pc lv (.int y :: st)) : GW X k n S pc lv (.int x :: st) := kk x rfl
theorem g_topl {x : Int64} (kk : ∀ y : Int64, y = x → GW X k n S pc lv (.long y :: st)) : GW X k n S pc lv (.long x :: st) := kk x rfl
theorem g_topd {x : UInt64} (kk : ∀ y : UInt64, y = x → GW X k n S pc lv (.double y :: st)) : GW X k n S pc lv (.double x :: st) := kk x rfl
theorem g_topr {x : Option Nat} (kk : ∀ y : Option Nat, y = x → GW X k n S pc lv (va_rf y :: st)) : GW X k n S pc lv (va_rf x :: st) := kk x rfl
theorem g_iadd (C : CxOK X cc own rm) {x y : Int32} (hdg : decode cc pc = .ok (.iadd, 1)) (kk : GW X k n S (pc + 1) lv (.int (x + y) :: st)) : GW X k n S pc lv (.int y :: .int x :: st) := fun H locs ls hP hD hS hl => lv_iadd C.1 C.2.1 hdg (kk H locs ls hP hD hS hl)
theorem g_isub (C : CxOK X cc own rm) {x y : Int32} (hdg : decode cc pc = .ok (.isub, 1)) (kk : GW X k n S (pc + 1) lv (.int (x - y) :: st)) : GW X k n S pc lv (.int y :: .int x :: st) := fun H locs ls hP hD hS hl => lv_isub C.1 C.2.1 hdg (kk H locs ls hP hD hS hl)
theorem g_imul (C : CxOK X cc own rm) {x y : Int32} (hdg : decode cc pc = .ok (.imul, 1)) (kk : GW X k n S (pc + 1) lv (.int (x * y) :: st)) : GW X k n S pc lv (.int y :: .int x :: st) := fun H locs ls hP hD hS hl => lv_imul C.1 C.2.1 hdg (kk H locs ls hP hD hS hl)
theorem g_iand (C : CxOK X cc own rm) {x y : Int32} (hdg : decode cc pc = .ok (.iand, 1)) (kk : GW X k n S (pc + 1) lv (.int (x &&& y) :: st)) : GW X k n S pc lv (.int y :: .int x :: st) := fun H locs ls hP hD hS hl => lv_iand C.1 C.2.1 hdg (kk H locs ls hP hD hS hl)
theorem g_ior (C : CxOK X cc own rm) {x y : Int32} (hdg : decode cc pc = .ok (.ior, 1)) (kk : GW X k n S (pc + 1) lv (.int (x ||| y) :: st)) : GW X k n S pc lv (.int y :: .int x :: st) := fun H locs ls hP hD hS hl => lv_ior C.1 C.2.1 hdg (kk H locs ls hP hD hS hl)
theorem g_ixor (C : CxOK X cc own rm) {x y : Int32} (hdg : decode cc pc = .ok (.ixor, 1)) (kk : GW X k n S (pc + 1) lv (.int (x ^^^ y) :: st)) : GW X k n S pc lv (.int y :: .int x :: st) := fun H locs ls hP hD hS hl => lv_ixor C.1 C.2.1 hdg (kk H locs ls hP hD hS hl)
theorem g_ladd (C : CxOK X cc own rm) {x y : Int64} (hdg : decode cc pc = .ok (.ladd, 1)) (kk : GW X k n S (pc + 1) lv (.long (x + y) :: st)) : GW X k n S pc lv (.long y :: .long x :: st) := fun H locs ls hP hD hS hl => lv_ladd C.1 C.2.1 hdg (kk H locs ls hP hD hS hl)
theorem g_land (C : CxOK X cc own rm) {x y : Int64} (hdg : decode cc pc = .ok (.land, 1)) (kk : GW X k n S (pc + 1) lv (.long (x &&& y) :: st)) : GW X k n S pc lv (.long y :: .long x :: st) := fun H locs ls hP hD hS hl => lv_land C.1 C.2.1 hdg (kk H locs ls hP hD hS hl)
theorem g_lor (C : CxOK X cc own rm) {x y : Int64} (hdg : decode cc pc = .ok (.lor, 1)) (kk : GW X k n S (pc + 1) lv (.long (x ||| y) :: st)) : GW X k n S pc lv (.long y :: .long x :: st) := fun H locs ls hP hD hS hl => lv_lor C.1 C.2.1 hdg (kk H locs ls hP hD hS hl)
theorem g_lxor (C : CxOK X cc own rm) {x y : Int64} (hdg : decode cc pc = .ok (.lxor, 1)) (kk : GW X k n S (pc + 1) lv (.long (x ^^^ y) :: st)) : GW X k n S pc lv (.long y :: .long x :: st) := fun H locs ls hP hD hS hl => lv_lxor C.1 C.2.1 hdg (kk H locs ls hP hD hS hl)
theorem g_dadd (C : CxOK X cc own rm) {β : Type} {K : Option β} {o : β} {x y : UInt64} (hdg : decode cc pc = .ok (.dadd, 1)) (h : gd (FP.dadd x y &&& 0x7fffffffffffffff ≤ 0x7ff0000000000000) K = some o) (kk : K = some o → GW X k n S (pc + 1) lv (.double (FP.dadd x y) :: st)) : GW X k n S pc lv (.double y :: .double x :: st) := fun H locs ls hP hD hS hl => lv_dadd C.1 C.2.1 hdg (gd_el h).1 (kk (gd_el h).2 H locs ls hP hD hS hl)
theorem g_dsub (C : CxOK X cc own rm) {β : Type} {K : Option β} {o : β} {x y : UInt64} (hdg : decode cc pc = .ok (.dsub, 1)) (h : gd (FP.dsub x y &&& 0x7fffffffffffffff ≤ 0x7ff0000000000000) K = some o) (kk : K = some o → GW X k n S (pc + 1) lv (.double (FP.dsub x y) :: st)) : GW X k n S pc lv (.double y :: .double x :: st) := fun H locs ls hP hD hS hl => lv_dsub C.1 C.2.1 hdg (gd_el h).1 (kk (gd_el h).2 H locs ls hP hD hS hl)
theorem g_dmul (C : CxOK X cc own rm) {β : Type} {K : Option β} {o : β} {x y : UInt64} (hdg : decode cc pc = .ok (.dmul, 1)) (h : gd (FP.dmul x y &&& 0x7fffffffffffffff ≤ 0x7ff0000000000000) K = some o) (kk : K = some o → GW X k n S (pc + 1) lv (.double (FP.dmul x y) :: st)) : GW X k n S pc lv (.double y :: .double x :: st) := fun H locs ls hP hD hS hl => lv_dmul C.1 C.2.1 hdg (gd_el h).1 (kk (gd_el h).2 H locs ls hP hD hS hl)
theorem g_ddiv (C : CxOK X cc own rm) {β : Type} {K : Option β} {o : β} {x y : UInt64} (hdg : decode cc pc = .ok (.ddiv, 1)) (h : gd (FP.ddiv x y &&& 0x7fffffffffffffff ≤ 0x7ff0000000000000) K = some o) (kk : K = some o → GW X k n S (pc + 1) lv (.double (FP.ddiv x y) :: st)) : GW X k n S pc lv (.double y :: .double x :: st) := fun H locs ls hP hD hS hl => lv_ddiv C.1 C.2.1 hdg (gd_el h).1 (kk (gd_el h).2 H locs ls hP hD hS hl)
theorem g_dneg (C : CxOK X cc own rm) {x : UInt64} (hdg : decode cc pc = .ok (.dneg, 1)) (kk : GW X k n S (pc + 1) lv (.double (FP.dneg x) :: st)) : GW X k n S pc lv (.double x :: st) := fun H locs ls hP hD hS hl => lv_dneg C.1 C.2.1 hdg (kk H locs ls hP hD hS hl)
theorem g_i2d (C : CxOK X cc own rm) {x : Int32} (hdg : decode cc pc = .ok (.i2d, 1)) (kk : GW X k n S (pc + 1) lv (.double (FP.i2d x) :: st)) : GW X k n S pc lv (.int x :: st) := fun H locs ls hP hD hS hl => lv_i2d C.1 C.2.1 hdg (kk H locs ls hP hD hS hl)
theorem g_l2d (C : CxOK X cc own rm) {x : Int64} (hdg : decode cc pc = .ok (.l2d, 1)) (kk : GW X k n S (pc + 1) lv (.double (FP.l2d x) :: st)) : GW X k n S pc lv (.long x :: st) := fun H locs ls hP hD hS hl => lv_l2d C.1 C.2.1 hdg (kk H locs ls hP hD hS hl)
theorem g_d2i (C : CxOK X cc own rm) {x : UInt64} (hdg : decode cc pc = .ok (.d2i, 1)) (kk : GW X k n S (pc + 1) lv (.int (FP.d2i x) :: st)) : GW X k n S pc lv (.double x :: st) := fun H locs ls hP hD hS hl => lv_d2i C.1 C.2.1 hdg (kk H locs ls hP hD hS hl)
theorem g_i2l (C : CxOK X cc own rm) {x : Int32} (hdg : decode cc pc = .ok (.i2l, 1)) (kk : GW X k n S (pc + 1) lv (.long (x.toInt64) :: st)) : GW X k n S pc lv (.int x :: st) := fun H locs ls hP hD hS hl => lv_i2l C.1 C.2.1 hdg rfl (kk H locs ls hP hD hS hl)
theorem g_l2i (C : CxOK X cc own rm) {x : Int64} (hdg : decode cc pc = .ok (.l2i, 1)) (kk : GW X k n S (pc + 1) lv (.int (x.toInt32) :: st)) : GW X k n S pc lv (.long x :: st) := fun H locs ls hP hD hS hl => lv_l2i C.1 C.2.1 hdg rfl (kk H locs ls hP hD hS hl)
theorem g_i2c (C : CxOK X cc own rm) {x : Int32} (hdg : decode cc pc = .ok (.i2c, 1)) (kk : GW X k n S (pc + 1) lv (.int ((x.toUInt32 % 65536).toInt32) :: st)) : GW X k n S pc lv (.int x :: st) := fun H locs ls hP hD hS hl => lv_i2c C.1 C.2.1 hdg rfl (kk H locs ls hP hD hS hl)
theorem g_irem (C : CxOK X cc own rm) {β : Type} {K : Option β} {o : β} {x y : Int32} (hdg : decode cc pc = .ok (.irem, 1)) (h : gd (¬ y = 0) K = some o) (kk : K = some o → GW X k n S (pc + 1) lv (.int (x - x / y * y) :: st)) : GW X k n S pc lv (.int y :: .int x :: st) := fun H locs ls hP hD hS hl => lv_irem C.1 C.2.1 hdg (gd_el h).1 (kk (gd_el h).2 H locs ls hP hD hS hl)
theorem g_ishl (C : CxOK X cc own rm) {x y : Int32} (hdg : decode cc pc = .ok (.ishl, 1)) (kk : GW X k n S (pc + 1) lv (.int (x <<< (y &&& 31)) :: st)) : GW X k n S pc lv (.int y :: .int x :: st) := fun H locs ls hP hD hS hl => lv_ishl C.1 C.2.1 hdg (kk H locs ls hP hD hS hl)
theorem g_ishr (C : CxOK X cc own rm) {x y : Int32} (hdg : decode cc pc = .ok (.ishr, 1)) (kk : GW X k n S (pc + 1) lv (.int (x >>> (y &&& 31)) :: st)) : GW X k n S pc lv (.int y :: .int x :: st) := fun H locs ls hP hD hS hl => lv_ishr C.1 C.2.1 hdg (kk H locs ls hP hD hS hl)
theorem g_lushr (C : CxOK X cc own rm) {x : Int64} {y : Int32} (hdg : decode cc pc = .ok (.lushr, 1)) (kk : GW X k n S (pc + 1) lv (.long (x.toUInt64 >>> (y.toInt64.toUInt64 &&& Int64.toUInt64 63)).toInt64 :: st)) : GW X k n S pc lv (.int y :: .long x :: st) := fun H locs ls hP hD hS hl => lv_lushr C.1 C.2.1 hdg rfl (kk H locs ls hP hD hS hl)
theorem g_lshl (C : CxOK X cc own rm) {x : Int64} {y : Int32} (hdg : decode cc pc = .ok (.lshl, 1)) (kk : GW X k n S (pc + 1) lv (.long (x <<< (y.toInt64 &&& 63)) :: st)) : GW X k n S pc lv (.int y :: .long x :: st) := fun H locs ls hP hD hS hl => lv_lshl C.1 C.2.1 hdg rfl (kk H locs ls hP hD hS hl)
theorem g_lcmp (C : CxOK X cc own rm) {x y : Int64} (hdg : decode cc pc = .ok (.lcmp, 1)) (kk : GW X k n S (pc + 1) lv (.int (lg_cmp x y) :: st)) : GW X k n S pc lv (.long y :: .long x :: st) := fun H locs ls hP hD hS hl => W.lcmp C.1 C.2.1 hdg (kk H locs ls hP hD hS hl)
theorem g_dcmp (C : CxOK X cc own rm) {x y : UInt64} {op : CmpOp} (hdg : decode cc pc = .ok (.dcmp op, 1)) (kk : GW X k n S (pc + 1) lv (.int (Op.cmpValue (FP.dcmp x y) op) :: st)) : GW X k n S pc lv (.double y :: .double x :: st) := fun H locs ls hP hD hS hl => lv_dcmp C.1 C.2.1 hdg (kk H locs ls hP hD hS hl)
theorem g_dup (C : CxOK X cc own rm) {v : Value} (hdg : decode cc pc = .ok (.dup, 1)) (hv : v.category = 1) (kk : GW X k n S (pc + 1) lv (v :: v :: st)) : GW X k n S pc lv (v :: st) := fun H locs ls hP hD hS hl => lv_dup C.1 C.2.1 hdg hv (kk H locs ls hP hD hS hl)
theorem va_rf_cat (r : Option Nat) : (va_rf r).category = 1 := by cases r <;> rfl
theorem g_dup2 (C : CxOK X cc own rm) {v w : Value} (hdg : decode cc pc = .ok (.dup2, 1)) (hv : v.category = 1) (hw : w.category = 1) (kk : GW X k n S (pc + 1) lv (v :: w :: v :: w :: st)) : GW X k n S pc lv (v :: w :: st) := fun H locs ls hP hD hS hl => lv_dup2_11 C.1 C.2.1 hdg hv hw (kk H locs ls hP hD hS hl)
theorem g_pop (C : CxOK X cc own rm) {v : Value} (hdg : decode cc pc = .ok (.pop, 1)) (hv : v.category = 1) (kk : GW X k n S (pc + 1) lv st) : GW X k n S pc lv (v :: st) := fun H locs ls hP hD hS hl => lv_pop C.1 C.2.1 hdg hv (kk H locs ls hP hD hS hl)
theorem g_goto (C : CxOK X cc own rm) {off : Int} {tgt : Nat} (hdg : decode cc pc = .ok (.goto off, 3)) (ht : (pc : Int) + off = (tgt : Int)) (kk : GW X k n S tgt lv st) : GW X k n S pc lv st := fun H locs ls hP hD hS hl => lv_goto C.1 C.2.1 hdg ht (kk H locs ls hP hD hS hl)
theorem g_null (C : CxOK X cc own rm) (hdg : decode cc pc = .ok (.aconst_null, 1)) (kk : GW X k n S (pc + 1) lv (va_rf none :: st)) : GW X k n S pc lv st := fun H locs ls hP hD hS hl => lv_null C.1 C.2.1 hdg (kk H locs ls hP hD hS hl)
theorem g_if_eq (C : CxOK X cc own rm) {β : Type} {A B : Option β} {o : β} {x : Int32} {off : Int} {tgt : Nat} (hdg : decode cc pc = .ok (.ifCond .eq off, 3)) (ht : (pc : Int) + off = (tgt : Int)) (h : (if x = 0 then A else B) = some o) (ka : A = some o → GW X k n S tgt lv st) (kb : B = some o → GW X k n S (pc + 3) lv st) : GW X k n S pc lv (.int x :: st) := fun H locs ls hP hD hS hl => lv_if_eq C.1 C.2.1 hdg ht (fun c => ka (if_el1 h c) H locs ls hP hD hS hl) (fun c => kb (if_el2 h c) H locs ls hP hD hS hl)
theorem g_icmp_eq (C : CxOK X cc own rm) {β : Type} {A B : Option β} {o : β} {x y : Int32} {off : Int} {tgt : Nat} (hdg : decode cc pc = .ok (.if_icmp .eq off, 3)) (ht : (pc : Int) + off = (tgt : Int)) (h : (if x = y then A else B) = some o) (ka : A = some o → GW X k n S tgt lv st) (kb : B = some o → GW X k n S (pc + 3) lv st) : GW X k n S pc lv (.int y :: .int x :: st) := fun H locs ls hP hD hS hl => lv_icmp_eq C.1 C.2.1 hdg ht (fun c => ka (if_el1 h c) H locs ls hP hD hS hl) (fun c => kb (if_el2 h c) H locs ls hP hD hS hl)
theorem g_if_ne (C : CxOK X cc own rm) {β : Type} {A B : Option β} {o : β} {x : Int32} {off : Int} {tgt : Nat} (hdg : decode cc pc = .ok (.ifCond .ne off, 3)) (ht : (pc : Int) + off = (tgt : Int)) (h : (if x = 0 then A else B) = some o) (ka : A = some o → GW X k n S (pc + 3) lv st) (kb : B = some o → GW X k n S tgt lv st) : GW X k n S pc lv (.int x :: st) := fun H locs ls hP hD hS hl => lv_if_ne C.1 C.2.1 hdg ht (fun c => kb (if_el2 h c) H locs ls hP hD hS hl) (fun c => ka (if_el1 h c) H locs ls hP hD hS hl)
theorem g_icmp_ne (C : CxOK X cc own rm) {β : Type} {A B : Option β} {o : β} {x y : Int32} {off : Int} {tgt : Nat} (hdg : decode cc pc = .ok (.if_icmp .ne off, 3)) (ht : (pc : Int) + off = (tgt : Int)) (h : (if x = y then A else B) = some o) (ka : A = some o → GW X k n S (pc + 3) lv st) (kb : B = some o → GW X k n S tgt lv st) : GW X k n S pc lv (.int y :: .int x :: st) := fun H locs ls hP hD hS hl => lv_icmp_ne C.1 C.2.1 hdg ht (fun c => kb (if_el2 h c) H locs ls hP hD hS hl) (fun c => ka (if_el1 h c) H locs ls hP hD hS hl)
theorem g_if_lt (C : CxOK X cc own rm) {β : Type} {A B : Option β} {o : β} {x : Int32} {off : Int} {tgt : Nat} (hdg : decode cc pc = .ok (.ifCond .lt off, 3)) (ht : (pc : Int) + off = (tgt : Int)) (h : (if x < 0 then A else B) = some o) (ka : A = some o → GW X k n S tgt lv st) (kb : B = some o → GW X k n S (pc + 3) lv st) : GW X k n S pc lv (.int x :: st) := fun H locs ls hP hD hS hl => lv_if_lt C.1 C.2.1 hdg ht (fun c => ka (if_el1 h c) H locs ls hP hD hS hl) (fun c => kb (if_el2 h c) H locs ls hP hD hS hl)
theorem g_icmp_lt (C : CxOK X cc own rm) {β : Type} {A B : Option β} {o : β} {x y : Int32} {off : Int} {tgt : Nat} (hdg : decode cc pc = .ok (.if_icmp .lt off, 3)) (ht : (pc : Int) + off = (tgt : Int)) (h : (if x < y then A else B) = some o) (ka : A = some o → GW X k n S tgt lv st) (kb : B = some o → GW X k n S (pc + 3) lv st) : GW X k n S pc lv (.int y :: .int x :: st) := fun H locs ls hP hD hS hl => lv_icmp_lt C.1 C.2.1 hdg ht (fun c => ka (if_el1 h c) H locs ls hP hD hS hl) (fun c => kb (if_el2 h c) H locs ls hP hD hS hl)
theorem g_if_ge (C : CxOK X cc own rm) {β : Type} {A B : Option β} {o : β} {x : Int32} {off : Int} {tgt : Nat} (hdg : decode cc pc = .ok (.ifCond .ge off, 3)) (ht : (pc : Int) + off = (tgt : Int)) (h : (if 0 ≤ x then A else B) = some o) (ka : A = some o → GW X k n S tgt lv st) (kb : B = some o → GW X k n S (pc + 3) lv st) : GW X k n S pc lv (.int x :: st) := fun H locs ls hP hD hS hl => lv_if_ge C.1 C.2.1 hdg ht (fun c => ka (if_el1 h c) H locs ls hP hD hS hl) (fun c => kb (if_el2 h c) H locs ls hP hD hS hl)
theorem g_icmp_ge (C : CxOK X cc own rm) {β : Type} {A B : Option β} {o : β} {x y : Int32} {off : Int} {tgt : Nat} (hdg : decode cc pc = .ok (.if_icmp .ge off, 3)) (ht : (pc : Int) + off = (tgt : Int)) (h : (if y ≤ x then A else B) = some o) (ka : A = some o → GW X k n S tgt lv st) (kb : B = some o → GW X k n S (pc + 3) lv st) : GW X k n S pc lv (.int y :: .int x :: st) := fun H locs ls hP hD hS hl => lv_icmp_ge C.1 C.2.1 hdg ht (fun c => ka (if_el1 h c) H locs ls hP hD hS hl) (fun c => kb (if_el2 h c) H locs ls hP hD hS hl)
theorem g_if_gt (C : CxOK X cc own rm) {β : Type} {A B : Option β} {o : β} {x : Int32} {off : Int} {tgt : Nat} (hdg : decode cc pc = .ok (.ifCond .gt off, 3)) (ht : (pc : Int) + off = (tgt : Int)) (h : (if 0 < x then A else B) = some o) (ka : A = some o → GW X k n S tgt lv st) (kb : B = some o → GW X k n S (pc + 3) lv st) : GW X k n S pc lv (.int x :: st) := fun H locs ls hP hD hS hl => lv_if_gt C.1 C.2.1 hdg ht (fun c => ka (if_el1 h c) H locs ls hP hD hS hl) (fun c => kb (if_el2 h c) H locs ls hP hD hS hl)
theorem g_icmp_gt (C : CxOK X cc own rm) {β : Type} {A B : Option β} {o : β} {x y : Int32} {off : Int} {tgt : Nat} (hdg : decode cc pc = .ok (.if_icmp .gt off, 3)) (ht : (pc : Int) + off = (tgt : Int)) (h : (if y < x then A else B) = some o) (ka : A = some o → GW X k n S tgt lv st) (kb : B = some o → GW X k n S (pc + 3) lv st) : GW X k n S pc lv (.int y :: .int x :: st) := fun H locs ls hP hD hS hl => lv_icmp_gt C.1 C.2.1 hdg ht (fun c => ka (if_el1 h c) H locs ls hP hD hS hl) (fun c => kb (if_el2 h c) H locs ls hP hD hS hl)
theorem g_if_le (C : CxOK X cc own rm) {β : Type} {A B : Option β} {o : β} {x : Int32} {off : Int} {tgt : Nat} (hdg : decode cc pc = .ok (.ifCond .le off, 3)) (ht : (pc : Int) + off = (tgt : Int)) (h : (if x ≤ 0 then A else B) = some o) (ka : A = some o → GW X k n S tgt lv st) (kb : B = some o → GW X k n S (pc + 3) lv st) : GW X k n S pc lv (.int x :: st) := fun H locs ls hP hD hS hl => lv_if_le C.1 C.2.1 hdg ht (fun c => ka (if_el1 h c) H locs ls hP hD hS hl) (fun c => kb (if_el2 h c) H locs ls hP hD hS hl)
theorem g_icmp_le (C : CxOK X cc own rm) {β : Type} {A B : Option β} {o : β} {x y : Int32} {off : Int} {tgt : Nat} (hdg : decode cc pc = .ok (.if_icmp .le off, 3)) (ht : (pc : Int) + off = (tgt : Int)) (h : (if x ≤ y then A else B) = some o) (ka : A = some o → GW X k n S tgt lv st) (kb : B = some o → GW X k n S (pc + 3) lv st) : GW X k n S pc lv (.int y :: .int x :: st) := fun H locs ls hP hD hS hl => lv_icmp_le C.1 C.2.1 hdg ht (fun c => ka (if_el1 h c) H locs ls hP hD hS hl) (fun c => kb (if_el2 h c) H locs ls hP hD hS hl)
theorem g_ifnonnull (C : CxOK X cc own rm) {β : Type} {A B : Option β} {o : β} {r : Option Nat} {off : Int} {tgt : Nat} (hdg : decode cc pc = .ok (.ifnonnull off, 3)) (ht : (pc : Int) + off = (tgt : Int)) (h : (if r = none then A else B) = some o) (ka : A = some o → GW X k n S (pc + 3) lv st) (kb : B = some o → GW X k n S tgt lv st) : GW X k n S pc lv (va_rf r :: st) := by
  cases r with
  | none => exact fun H locs ls hP hD hS hl => lv_ifnonnullN C.1 C.2.1 hdg (ka (if_el1 h rfl) H locs ls hP hD hS hl)
  | some a => exact fun H locs ls hP hD hS hl => lv_ifnonnull C.1 C.2.1 hdg ht (kb (if_el2 h (fun e => by cases e)) H locs ls hP hD hS hl)
theorem g_ifnull (C : CxOK X cc own rm) {β : Type} {A B : Option β} {o : β} {r : Option Nat} {off : Int} {tgt : Nat} (hdg : decode cc pc = .ok (.ifnull off, 3)) (ht : (pc : Int) + off = (tgt : Int)) (h : (if r = none then A else B) = some o) (ka : A = some o → GW X k n S tgt lv st) (kb : B = some o → GW X k n S (pc + 3) lv st) : GW X k n S pc lv (va_rf r :: st) := by
  cases r with
  | none => exact fun H locs ls hP hD hS hl => lv_ifnullN C.1 C.2.1 hdg ht (ka (if_el1 h rfl) H locs ls hP hD hS hl)
  | some a => exact fun H locs ls hP hD hS hl => lv_ifnull C.1 C.2.1 hdg (kb (if_el2 h (fun e => by cases e)) H locs ls hP hD hS hl)
theorem g_tswIn (C : CxOK X cc own rm) {dflt lo hi : Int} {offs : Array Int} {len : Nat} {x v : Int32} {off : Int} {tgt : Nat} (hdg : decode cc pc = .ok (.tableswitch dflt lo hi offs, len)) (hx : x = v) (h1 : ¬ v.toInt < lo) (h2 : ¬ hi < v.toInt) (ho : offs[(v.toInt - lo).toNat]? = some off) (ht : (pc : Int) + off = (tgt : Int)) (kk : GW X k n S tgt lv st) : GW X k n S pc lv (.int x :: st) := by
  subst hx
  exact fun H locs ls hP hD hS hl => lv_tableIn C.1 C.2.1 hdg h1 h2 ho ht (kk H locs ls hP hD hS hl)
theorem sw_out {x : Int32} (lo : Nat) (N : Nat) (hN : lo + N < 1000) (h : ∀ j, j < N → ¬ x = Int32.ofNat (lo + j)) : x.toInt < (lo : Int) ∨ ((lo + N : Nat) : Int) - 1 < x.toInt := by
  rcases Int.lt_or_le x.toInt lo with q | q
  · exact Or.inl q
  · refine Or.inr ?_
    rcases Int.lt_or_le (((lo + N : Nat) : Int) - 1) x.toInt with r | r
    · exact r
    · exfalso
      have hj : (x.toInt.toNat - lo) < N := by omega
      refine h _ hj ?_
      apply Int32.toInt_inj.mp
      rw [Int32.toInt_ofNat_of_lt (by omega)]
      omega
theorem g_tswOut (C : CxOK X cc own rm) {dflt lo hi : Int} {offs : Array Int} {len : Nat} {x : Int32} {tgt : Nat} (hdg : decode cc pc = .ok (.tableswitch dflt lo hi offs, len)) (hx : x.toInt < lo ∨ hi < x.toInt) (ht : (pc : Int) + dflt = (tgt : Int)) (kk : GW X k n S tgt lv st) : GW X k n S pc lv (.int x :: st) := fun H locs ls hP hD hS hl => lv_tableOut C.1 C.2.1 hdg hx ht (kk H locs ls hP hD hS hl)
-- fields
theorem g_get (C : CxOK X cc own rm) {ci N slot t idx : Nat} {T : u_T} {Cn : String} (hc : vwCl[ci]? = some (Cn, T, N)) (hci : ci < 7) (hin : ∀ w ∈ u_ws Cn T N, w ∈ wsL_law) (hk : slot < N) (hz : (zs ci)[slot]? = some (slot, t)) (hlink : Cond.fieldLink own idx (T slot).1 (T slot).2.1 (T slot).2.2.1 ∈ wsL_law) (hdg : decode cc pc = .ok (.getfield idx, 3)) {a : Nat} (hL : a ∈ zL S) (hK : zK S a = ci) (kk : GW X k n S (pc + 3) lv (zv S a (slot, t) :: st)) : GW X k n S pc lv (va_rf (some a) :: st) := by
  intro H locs ls hP hD hS hl
  obtain ⟨q, hq⟩ := zP_get (cy := xy X) hL (zF_o hK hci)
  exact va_get (D := xG X) C.1 C.2.1 C.2.2.2.2.1 hin C.2.2.2.1 C.2.2.2.2.2.1 hP q hq hc slot hk (C.2.2.2.2.1 _ hlink) (fun _ h => h) (by rw [List.getElem?_map, hz]; rfl) hdg (kk H locs ls hP hD hS hl)
theorem g_oget (C : CxOK X cc own rm) {β : Type} {o : β} {K : Nat → Option β} {ci N slot t idx : Nat} {T : u_T} {Cn : String} {r : Option Nat} (hc : vwCl[ci]? = some (Cn, T, N)) (hci : ci < 7) (hin : ∀ w ∈ u_ws Cn T N, w ∈ wsL_law) (hk : slot < N) (hz : (zs ci)[slot]? = some (slot, t)) (hlink : Cond.fieldLink own idx (T slot).1 (T slot).2.1 (T slot).2.2.1 ∈ wsL_law) (hdg : decode cc pc = .ok (.getfield idx, 3)) (h : ob S ci r K = some o) (kk : ∀ a, K a = some o → a ∈ zL S → zK S a = ci → GW X k n S (pc + 3) lv (zv S a (slot, t) :: st)) : GW X k n S pc lv (va_rf r :: st) := by
  obtain ⟨a, rfl, hL, hK, h⟩ := ob_el h
  exact g_get C hc hci hin hk hz hlink hdg hL hK (kk a h hL hK)
theorem zF_congr {cy : Nat → ClassId} {S S1 : Hp} {b : Nat} (hk : zK S1 b = zK S b) (hn : zN S1 b = zN S b) (hi : zI S1 b = zI S b) (hj : zJ S1 b = zJ S b) (hd : zD S1 b = zD S b) (hr : zR S1 b = zR S b) : zF cy S1 b = zF cy S b := by
  have hz : zv S1 b = zv S b := funext fun q => by unfold zv; rw [hi, hj, hd, hr]
  unfold zF
  rw [hk, hn, hi, hd, hr, hz]
theorem g_putG (C : CxOK X cc own rm) {S1 : Hp} {ci N slot t idx : Nat} {T : u_T} {Cn : String} (ty : Nat → FieldType) (hty : ∀ k, k < N → parseFieldDescriptor (T k).2.2.1 = some (ty k)) (hnm : ∀ a, a < N → ∀ b, b < N → a ≠ b → (T a).2.1 ≠ (T b).2.1) (hc : vwCl[ci]? = some (Cn, T, N)) (hci : ci < 7) (hin : ∀ w ∈ u_ws Cn T N, w ∈ wsL_law) (hk : slot < N) (hz : (zs ci)[slot]? = some (slot, t)) (hlink : Cond.fieldLink own idx (T slot).1 (T slot).2.1 (T slot).2.2.1 ∈ wsL_law) (hfin : (T slot).2.2.2 = false) (hdg : decode cc pc = .ok (.putfield idx, 3)) {a : Nat} {v : Value} (hn : narrow (ty slot) v = v) (hf : fits (ty slot) v = true) (hL : a ∈ zL S) (hK : zK S a = ci) (e1 : zL S1 = zL S) (e2 : zK S1 a = zK S a) (e3 : zv S1 a (slot, t) = v) (e4 : ∀ j u, j ≠ slot → zv S1 a (j, u) = zv S a (j, u)) (e5 : ∀ (cy : Nat → ClassId) b, b ≠ a → zF cy S1 b = zF cy S b) (kk : GW X k n S1 (pc + 3) lv st) : GW X k n S pc lv (v :: va_rf (some a) :: st) := by
  intro H locs ls hP hD hS hl
  obtain ⟨q, hq⟩ := zP_get (cy := xy X) hL (zF_o hK hci)
  have hlen : slot < ((zs ci).map (zv S a)).length := by rw [List.length_map]; exact (List.getElem?_eq_some_iff.mp hz).1
  refine va_put (D := xG X) C.1 C.2.1 C.2.2.2.2.1 hin ty hty hnm C.2.2.2.1 C.2.2.2.2.2.1 hP hD hS q hq hc slot hk (C.2.2.2.2.1 _ hlink) (fun _ h => h) hfin (hty slot hk) hn hf hlen hdg (fun H1 locs1 hP1 hD1 hS1 => ?_)
  have es : (zP (xy X) S).set q (a, .inr (ci, ((zs ci).map (zv S a)).set slot v)) = zP (xy X) S1 := by
    refine zP_set hD hL hq (zF_o hK hci) e1 ?_ (e5 (xy X))
    rw [zF_o (e2.trans hK) hci, zv_set hz e3 e4]
  rw [es] at hP1 hD1
  exact kk H1 locs1 ls hP1 hD1 hS1 hl
theorem wI_F (cy : Nat → ClassId) (S : Hp) (a j : Nat) (v : Int32) (b : Nat) (hb : b ≠ a) : zF cy (wI S a j v) b = zF cy S b := zF_congr rfl rfl (u2_row _ _ hb) rfl rfl rfl
theorem g_oputI (C : CxOK X cc own rm) {β : Type} {o : β} {K : Nat → Option β} {ci N slot idx : Nat} {T : u_T} {Cn : String} {r : Option Nat} {v : Int32} (ty : Nat → FieldType) (hty : ∀ k, k < N → parseFieldDescriptor (T k).2.2.1 = some (ty k)) (hnm : ∀ a, a < N → ∀ b, b < N → a ≠ b → (T a).2.1 ≠ (T b).2.1) (hc : vwCl[ci]? = some (Cn, T, N)) (hci : ci < 7) (hin : ∀ w ∈ u_ws Cn T N, w ∈ wsL_law) (hk : slot < N) (hz : (zs ci)[slot]? = some (slot, 0)) (hlink : Cond.fieldLink own idx (T slot).1 (T slot).2.1 (T slot).2.2.1 ∈ wsL_law) (hfin : (T slot).2.2.2 = false) (hdg : decode cc pc = .ok (.putfield idx, 3)) (hn : narrow (ty slot) (.int v) = .int v) (hf : fits (ty slot) (.int v) = true) (h : ob S ci r K = some o) (kk : ∀ a S1, S1 = wI S a slot v → K a = some o → GW X k n S1 (pc + 3) lv st) : GW X k n S pc lv (.int v :: va_rf r :: st) := by
  obtain ⟨a, rfl, hL, hK, h⟩ := ob_el h
  exact g_putG C ty hty hnm hc hci hin hk hz hlink hfin hdg hn hf hL hK (S1 := wI S a slot v) rfl rfl (congrArg Value.int (u2_self _ _ _ _)) (fun j u hj => by rcases u with _ | _ | _ | u <;> first | rfl | exact congrArg _ (u2_nek _ _ hj)) (fun cy b hb => wI_F cy S a slot v b hb) (kk a _ rfl h)
theorem wJ_F (cy : Nat → ClassId) (S : Hp) (a j : Nat) (v : Int64) (b : Nat) (hb : b ≠ a) : zF cy (wJ S a j v) b = zF cy S b := zF_congr rfl rfl rfl (u2_row _ _ hb) rfl rfl
theorem g_oputJ (C : CxOK X cc own rm) {β : Type} {o : β} {K : Nat → Option β} {ci N slot idx : Nat} {T : u_T} {Cn : String} {r : Option Nat} {v : Int64} (ty : Nat → FieldType) (hty : ∀ k, k < N → parseFieldDescriptor (T k).2.2.1 = some (ty k)) (hnm : ∀ a, a < N → ∀ b, b < N → a ≠ b → (T a).2.1 ≠ (T b).2.1) (hc : vwCl[ci]? = some (Cn, T, N)) (hci : ci < 7) (hin : ∀ w ∈ u_ws Cn T N, w ∈ wsL_law) (hk : slot < N) (hz : (zs ci)[slot]? = some (slot, 1)) (hlink : Cond.fieldLink own idx (T slot).1 (T slot).2.1 (T slot).2.2.1 ∈ wsL_law) (hfin : (T slot).2.2.2 = false) (hdg : decode cc pc = .ok (.putfield idx, 3)) (hn : narrow (ty slot) (.long v) = .long v) (hf : fits (ty slot) (.long v) = true) (h : ob S ci r K = some o) (kk : ∀ a S1, S1 = wJ S a slot v → K a = some o → GW X k n S1 (pc + 3) lv st) : GW X k n S pc lv (.long v :: va_rf r :: st) := by
  obtain ⟨a, rfl, hL, hK, h⟩ := ob_el h
  exact g_putG C ty hty hnm hc hci hin hk hz hlink hfin hdg hn hf hL hK (S1 := wJ S a slot v) rfl rfl (congrArg Value.long (u2_self _ _ _ _)) (fun j u hj => by rcases u with _ | _ | _ | u <;> first | rfl | exact congrArg _ (u2_nek _ _ hj)) (fun cy b hb => wJ_F cy S a slot v b hb) (kk a _ rfl h)
theorem wD_F (cy : Nat → ClassId) (S : Hp) (a j : Nat) (v : UInt64) (b : Nat) (hb : b ≠ a) : zF cy (wD S a j v) b = zF cy S b := zF_congr rfl rfl rfl rfl (u2_row _ _ hb) rfl
theorem g_oputD (C : CxOK X cc own rm) {β : Type} {o : β} {K : Nat → Option β} {ci N slot idx : Nat} {T : u_T} {Cn : String} {r : Option Nat} {v : UInt64} (ty : Nat → FieldType) (hty : ∀ k, k < N → parseFieldDescriptor (T k).2.2.1 = some (ty k)) (hnm : ∀ a, a < N → ∀ b, b < N → a ≠ b → (T a).2.1 ≠ (T b).2.1) (hc : vwCl[ci]? = some (Cn, T, N)) (hci : ci < 7) (hin : ∀ w ∈ u_ws Cn T N, w ∈ wsL_law) (hk : slot < N) (hz : (zs ci)[slot]? = some (slot, 2)) (hlink : Cond.fieldLink own idx (T slot).1 (T slot).2.1 (T slot).2.2.1 ∈ wsL_law) (hfin : (T slot).2.2.2 = false) (hdg : decode cc pc = .ok (.putfield idx, 3)) (hn : narrow (ty slot) (.double v) = .double v) (hf : fits (ty slot) (.double v) = true) (h : ob S ci r K = some o) (kk : ∀ a S1, S1 = wD S a slot v → K a = some o → GW X k n S1 (pc + 3) lv st) : GW X k n S pc lv (.double v :: va_rf r :: st) := by
  obtain ⟨a, rfl, hL, hK, h⟩ := ob_el h
  exact g_putG C ty hty hnm hc hci hin hk hz hlink hfin hdg hn hf hL hK (S1 := wD S a slot v) rfl rfl (congrArg Value.double (u2_self _ _ _ _)) (fun j u hj => by rcases u with _ | _ | _ | u <;> first | rfl | exact congrArg _ (u2_nek _ _ hj)) (fun cy b hb => wD_F cy S a slot v b hb) (kk a _ rfl h)
theorem g_iald (C : CxOK X cc own rm) {β : Type} {o : β} {K : Nat → Nat → Option β} {r : Option Nat} {i : Int32} (hdg : decode cc pc = .ok (.iaload, 1)) (h : ar S 9 r i K = some o) (kk : ∀ a j, K a j = some o → GW X k n S (pc + 1) lv (.int (zI S a j) :: st)) : GW X k n S pc lv (.int i :: va_rf r :: st) := by
  obtain ⟨a, rfl, hL, hK, hi, h⟩ := ar_el h
  intro H locs ls hP hD hS hl
  obtain ⟨q, hq⟩ := zP_get (cy := xy X) hL (zF_i hK)
  exact va_iald (D := xG X) C.1 C.2.1 C.2.2.2.2.2.1 hP q 2 hq rfl hi hdg (kk a _ h H locs ls hP hD hS hl)
theorem g_cald (C : CxOK X cc own rm) {β : Type} {o : β} {K : Nat → Nat → Option β} {r : Option Nat} {i : Int32} (hdg : decode cc pc = .ok (.caload, 1)) (h : ar S 7 r i K = some o) (kk : ∀ a j, K a j = some o → GW X k n S (pc + 1) lv (.int (zI S a j) :: st)) : GW X k n S pc lv (.int i :: va_rf r :: st) := by
  obtain ⟨a, rfl, hL, hK, hi, h⟩ := ar_el h
  intro H locs ls hP hD hS hl
  obtain ⟨q, hq⟩ := zP_get (cy := xy X) hL (zF_c hK)
  exact va_cald (D := xG X) C.1 C.2.1 C.2.2.2.2.2.1 hP q 0 hq rfl hi hdg (kk a _ h H locs ls hP hD hS hl)
theorem g_dald (C : CxOK X cc own rm) {β : Type} {o : β} {K : Nat → Nat → Option β} {r : Option Nat} {i : Int32} (hdg : decode cc pc = .ok (.daload, 1)) (h : ar S 8 r i K = some o) (kk : ∀ a j, K a j = some o → GW X k n S (pc + 1) lv (.double (zD S a j) :: st)) : GW X k n S pc lv (.int i :: va_rf r :: st) := by
  obtain ⟨a, rfl, hL, hK, hi, h⟩ := ar_el h
  intro H locs ls hP hD hS hl
  obtain ⟨q, hq⟩ := zP_get (cy := xy X) hL (zF_d hK)
  exact va_dald (D := xG X) C.1 C.2.1 C.2.2.2.2.2.1 hP q 1 hq rfl hi hdg (kk a _ h H locs ls hP hD hS hl)
theorem g_aald10 (C : CxOK X cc own rm) {β : Type} {o : β} {K : Nat → Nat → Option β} {r : Option Nat} {i : Int32} (hdg : decode cc pc = .ok (.aaload, 1)) (h : ar S 10 r i K = some o) (kk : ∀ a j, K a j = some o → GW X k n S (pc + 1) lv (va_rf (zR S a j) :: st)) : GW X k n S pc lv (.int i :: va_rf r :: st) := by
  obtain ⟨a, rfl, hL, hK, hi, h⟩ := ar_el h
  intro H locs ls hP hD hS hl
  obtain ⟨q, hq⟩ := zP_get (cy := xy X) hL (zF_q hK (by decide))
  exact va_aldq (D := xG X) C.1 C.2.1 C.2.2.2.2.2.1 hP q 3 hq rfl hi hdg (kk a _ h H locs ls hP hD hS hl)
theorem g_aald11 (C : CxOK X cc own rm) {β : Type} {o : β} {K : Nat → Nat → Option β} {r : Option Nat} {i : Int32} (hdg : decode cc pc = .ok (.aaload, 1)) (h : ar S 11 r i K = some o) (kk : ∀ a j, K a j = some o → GW X k n S (pc + 1) lv (va_rf (zR S a j) :: st)) : GW X k n S pc lv (.int i :: va_rf r :: st) := by
  obtain ⟨a, rfl, hL, hK, hi, h⟩ := ar_el h
  intro H locs ls hP hD hS hl
  obtain ⟨q, hq⟩ := zP_get (cy := xy X) hL (zF_q hK (by decide))
  exact va_aldq (D := xG X) C.1 C.2.1 C.2.2.2.2.2.1 hP q 4 hq rfl hi hdg (kk a _ h H locs ls hP hD hS hl)
theorem g_aald12 (C : CxOK X cc own rm) {β : Type} {o : β} {K : Nat → Nat → Option β} {r : Option Nat} {i : Int32} (hdg : decode cc pc = .ok (.aaload, 1)) (h : ar S 12 r i K = some o) (kk : ∀ a j, K a j = some o → GW X k n S (pc + 1) lv (va_rf (zR S a j) :: st)) : GW X k n S pc lv (.int i :: va_rf r :: st) := by
  obtain ⟨a, rfl, hL, hK, hi, h⟩ := ar_el h
  intro H locs ls hP hD hS hl
  obtain ⟨q, hq⟩ := zP_get (cy := xy X) hL (zF_q hK (by decide))
  exact va_aldq (D := xG X) C.1 C.2.1 C.2.2.2.2.2.1 hP q 5 hq rfl hi hdg (kk a _ h H locs ls hP hD hS hl)
theorem g_iast (C : CxOK X cc own rm) {β : Type} {o : β} {K : Nat → Nat → Option β} {r : Option Nat} {i : Int32} {x : Int32} (hdg : decode cc pc = .ok (.iastore, 1)) (h : ar S 9 r i K = some o) (kk : ∀ a j S1, S1 = wI S a j x → K a j = some o → GW X k n S1 (pc + 1) lv st) : GW X k n S pc lv (.int x :: .int i :: va_rf r :: st) := by
  obtain ⟨a, rfl, hL, hK, hi, h⟩ := ar_el h
  intro H locs ls hP hD hS hl
  obtain ⟨q, hq⟩ := zP_get (cy := xy X) hL (zF_i hK)
  refine va_iast (D := xG X) C.1 C.2.1 C.2.2.2.2.2.1 hP hD hS q 2 hq rfl hi hdg (fun H1 locs1 hP1 hD1 hS1 => ?_)
  have es := zP_set (S1 := wI S a i.toNatClampNeg x) hD hL hq (zF_i hK) rfl (zF_i hK) (fun b hb => wI_F (xy X) S a i.toNatClampNeg x b hb)
  have er : zI (wI S a i.toNatClampNeg x) a = _ := u2_upd (zI S) a i.toNatClampNeg x
  rw [er] at es
  have en : zN (wI S a i.toNatClampNeg x) a = zN S a := rfl
  rw [en] at es
  rw [es] at hP1 hD1
  exact kk a _ _ rfl h H1 locs1 ls hP1 hD1 hS1 hl
theorem g_cast (C : CxOK X cc own rm) {β : Type} {o : β} {K : Nat → Nat → Option β} {r : Option Nat} {i : Int32} {x : Int32} (hdg : decode cc pc = .ok (.castore, 1)) (h : ar S 7 r i K = some o) (kk : ∀ a j S1, S1 = wI S a j (vp_nar .char x) → K a j = some o → GW X k n S1 (pc + 1) lv st) : GW X k n S pc lv (.int x :: .int i :: va_rf r :: st) := by
  obtain ⟨a, rfl, hL, hK, hi, h⟩ := ar_el h
  intro H locs ls hP hD hS hl
  obtain ⟨q, hq⟩ := zP_get (cy := xy X) hL (zF_c hK)
  refine va_cast (D := xG X) C.1 C.2.1 C.2.2.2.2.2.1 hP hD hS q 0 hq rfl hi hdg (fun H1 locs1 hP1 hD1 hS1 => ?_)
  have es := zP_set (S1 := wI S a i.toNatClampNeg (vp_nar .char x)) hD hL hq (zF_c hK) rfl (zF_c hK) (fun b hb => wI_F (xy X) S a i.toNatClampNeg (vp_nar .char x) b hb)
  have er : zI (wI S a i.toNatClampNeg (vp_nar .char x)) a = _ := u2_upd (zI S) a i.toNatClampNeg (vp_nar .char x)
  rw [er] at es
  have en : zN (wI S a i.toNatClampNeg (vp_nar .char x)) a = zN S a := rfl
  rw [en] at es
  rw [es] at hP1 hD1
  exact kk a _ _ rfl h H1 locs1 ls hP1 hD1 hS1 hl
theorem g_dast (C : CxOK X cc own rm) {β : Type} {o : β} {K : Nat → Nat → Option β} {r : Option Nat} {i : Int32} {x : UInt64} (hdg : decode cc pc = .ok (.dastore, 1)) (h : ar S 8 r i K = some o) (kk : ∀ a j S1, S1 = wD S a j x → K a j = some o → GW X k n S1 (pc + 1) lv st) : GW X k n S pc lv (.double x :: .int i :: va_rf r :: st) := by
  obtain ⟨a, rfl, hL, hK, hi, h⟩ := ar_el h
  intro H locs ls hP hD hS hl
  obtain ⟨q, hq⟩ := zP_get (cy := xy X) hL (zF_d hK)
  refine va_dast (D := xG X) C.1 C.2.1 C.2.2.2.2.2.1 hP hD hS q 1 hq rfl hi hdg (fun H1 locs1 hP1 hD1 hS1 => ?_)
  have es := zP_set (S1 := wD S a i.toNatClampNeg x) hD hL hq (zF_d hK) rfl (zF_d hK) (fun b hb => wD_F (xy X) S a i.toNatClampNeg x b hb)
  have er : zD (wD S a i.toNatClampNeg x) a = _ := u2_vupd (zD S) a i.toNatClampNeg x
  rw [er] at es
  have en : zN (wD S a i.toNatClampNeg x) a = zN S a := rfl
  rw [en] at es
  rw [es] at hP1 hD1
  exact kk a _ _ rfl h H1 locs1 ls hP1 hD1 hS1 hl
end GR
end
section
/-! copies of rows, ends, calls -/
section GR2
variable {X : Cx} {cc : ByteArray} {own : String} {rm : Room} {k n pc : Nat} {S : Hp} {lv lv' : List (Nat × Value)} {st : List Value}
/-- both rows are there, of that kind, and long enough -/
def cpy {β : Type} (S : Hp) (c : Nat) (r1 r2 : Option Nat) (m : Nat) (K : Nat → Nat → Option β) : Option β := match r1, r2 with
  | some a, some b => if (a ∈ zL S ∧ zK S a = c ∧ m ≤ zN S a) ∧ (b ∈ zL S ∧ zK S b = c ∧ m ≤ zN S b) then K a b else none
  | _, _ => none
theorem cpy_el {β : Type} {S : Hp} {c m : Nat} {r1 r2 : Option Nat} {K : Nat → Nat → Option β} {o : β} (h : cpy S c r1 r2 m K = some o) : ∃ a b, r1 = some a ∧ r2 = some b ∧ ((a ∈ zL S ∧ zK S a = c ∧ m ≤ zN S a) ∧ (b ∈ zL S ∧ zK S b = c ∧ m ≤ zN S b)) ∧ K a b = some o := by
  cases r1 with
  | none => cases h
  | some a => cases r2 with
    | none => cases h
    | some b =>
      by_cases hc : (a ∈ zL S ∧ zK S a = c ∧ m ≤ zN S a) ∧ (b ∈ zL S ∧ zK S b = c ∧ m ≤ zN S b)
      · have : cpy S c (some a) (some b) m K = K a b := if_pos hc
        rw [this] at h
        exact ⟨a, b, rfl, rfl, hc, h⟩
      · have : cpy S c (some a) (some b) m K = none := if_neg hc
        rw [this] at h; cases h
theorem cpy_go {β : Type} {S : Hp} {c m a b : Nat} {K : Nat → Nat → Option β} (h1 : a ∈ zL S) (h2 : zK S a = c) (h3 : m ≤ zN S a) (h4 : b ∈ zL S) (h5 : zK S b = c) (h6 : m ≤ zN S b) : cpy S c (some a) (some b) m K = K a b := if_pos ⟨⟨h1, h2, h3⟩, h4, h5, h6⟩
theorem rI_F (cy : Nat → ClassId) (S : Hp) (a : Nat) (f : Nat → Int32) (b : Nat) (hb : b ≠ a) : zF cy (rI S a f) b = zF cy S b := zF_congr rfl rfl (if_neg hb) rfl rfl rfl
theorem rD_F (cy : Nat → ClassId) (S : Hp) (a : Nat) (f : Nat → UInt64) (b : Nat) (hb : b ≠ a) : zF cy (rD S a f) b = zF cy S b := zF_congr rfl rfl rfl rfl (if_neg hb) rfl
theorem g_copyi (C : CxOK X cc own rm) {β : Type} {o : β} {K : Nat → Nat → Option β} {r1 r2 : Option Nat} {idx m : Nat} {mi z1 z2 : Int32} (hz1 : z1 = 0) (hz2 : z2 = 0) (hm : mi.toNatClampNeg = m) (hm0 : ¬ mi < 0) (hw1 : Cond.methodLink own idx arraycopyName ∈ wsL_law) (hw2 : Cond.native arraycopyName ∈ wsL_law) (hw3 : Cond.static arraycopyName ∈ wsL_law) (hw4 : Cond.initialized "java/lang/System" ∈ wsL_law) (hfr : 1 ≤ rm.frames) (hlo : (st.map fun v => v.category).sum + (nativeFrameWords "java/lang/System" "arraycopy" 5 + 11) ≤ rm.locals) (hdg : decode cc pc = .ok (.invokestatic idx, 3)) (h : cpy S 9 r1 r2 m K = some o) (kk : ∀ a b S1, S1 = rI S b (va_cpy (zI S a) (zI S b) 0 0 m) → K a b = some o → GW X k n S1 (pc + 3) lv st) : GW X k n S pc lv (.int mi :: .int z2 :: va_rf r2 :: .int z1 :: va_rf r1 :: st) := by
  obtain ⟨a, b, rfl, rfl, ⟨⟨hL1, hK1, hm1⟩, hL2, hK2, hm2⟩, h⟩ := cpy_el h
  subst hz1; subst hz2
  intro H locs ls hP hD hS hl
  obtain ⟨q0, hq0⟩ := zP_get (cy := xy X) hL1 (zF_i hK1)
  obtain ⟨q1, hq1⟩ := zP_get (cy := xy X) hL2 (zF_i hK2)
  refine va_copyi (sp := 0) (dp := 0) (n := mi) (D := xG X) C.1 C.2.1 (C.2.2.1.trans hl.1.symm) C.2.2.2.1 (C.2.2.2.2.1 _ hw1) (C.2.2.2.2.1 _ hw2) (C.2.2.2.2.1 _ hw3) (C.2.2.2.2.1 _ hw4) C.2.2.2.2.2.1 hP hD hS q0 q1 2 2 hq0 hq1 rfl rfl rfl (by decide) (by decide) hm0 (by rw [hm, show (0 : Int32).toNatClampNeg = 0 from rfl, Nat.zero_add]; exact hm1) (by rw [hm, show (0 : Int32).toNatClampNeg = 0 from rfl, Nat.zero_add]; exact hm2) (fun _ _ => rfl) (by rw [C.2.2.2.2.2.2.2.2]; exact hfr) (by rw [C.2.2.2.2.2.2.2.2]; exact hlo) hdg (fun H1 locs1 hP1 hD1 hS1 => ?_)
  have es := zP_set (S1 := rI S b (va_cpy (zI S a) (zI S b) 0 0 m)) hD hL2 hq1 (zF_i hK2) rfl (zF_i hK2) (fun x hx => rI_F (xy X) S b _ x hx)
  have er : zI (rI S b (va_cpy (zI S a) (zI S b) 0 0 m)) b = va_cpy (zI S a) (zI S b) 0 0 m := if_pos rfl
  rw [er] at es
  have en : zN (rI S b (va_cpy (zI S a) (zI S b) 0 0 m)) b = zN S b := rfl
  rw [en] at es
  rw [hm] at hP1 hD1
  have e0 : (0 : Int32).toNatClampNeg = 0 := rfl
  rw [e0] at hP1 hD1
  rw [es] at hP1 hD1
  exact kk a b _ rfl h H1 locs1 ls hP1 hD1 hS1 hl
theorem g_copyd (C : CxOK X cc own rm) {β : Type} {o : β} {K : Nat → Nat → Option β} {r1 r2 : Option Nat} {idx m : Nat} {mi z1 z2 : Int32} (hz1 : z1 = 0) (hz2 : z2 = 0) (hm : mi.toNatClampNeg = m) (hm0 : ¬ mi < 0) (hw1 : Cond.methodLink own idx arraycopyName ∈ wsL_law) (hw2 : Cond.native arraycopyName ∈ wsL_law) (hw3 : Cond.static arraycopyName ∈ wsL_law) (hw4 : Cond.initialized "java/lang/System" ∈ wsL_law) (hfr : 1 ≤ rm.frames) (hlo : (st.map fun v => v.category).sum + (nativeFrameWords "java/lang/System" "arraycopy" 5 + 11) ≤ rm.locals) (hdg : decode cc pc = .ok (.invokestatic idx, 3)) (h : cpy S 8 r1 r2 m K = some o) (kk : ∀ a b S1, S1 = rD S b (va_cpy (zD S a) (zD S b) 0 0 m) → K a b = some o → GW X k n S1 (pc + 3) lv st) : GW X k n S pc lv (.int mi :: .int z2 :: va_rf r2 :: .int z1 :: va_rf r1 :: st) := by
  obtain ⟨a, b, rfl, rfl, ⟨⟨hL1, hK1, hm1⟩, hL2, hK2, hm2⟩, h⟩ := cpy_el h
  subst hz1; subst hz2
  intro H locs ls hP hD hS hl
  obtain ⟨q0, hq0⟩ := zP_get (cy := xy X) hL1 (zF_d hK1)
  obtain ⟨q1, hq1⟩ := zP_get (cy := xy X) hL2 (zF_d hK2)
  refine va_copyd (sp := 0) (dp := 0) (n := mi) (D := xG X) C.1 C.2.1 (C.2.2.1.trans hl.1.symm) C.2.2.2.1 (C.2.2.2.2.1 _ hw1) (C.2.2.2.2.1 _ hw2) (C.2.2.2.2.1 _ hw3) (C.2.2.2.2.1 _ hw4) C.2.2.2.2.2.1 hP hD hS q0 q1 1 1 hq0 hq1 rfl rfl rfl (by decide) (by decide) hm0 (by rw [hm, show (0 : Int32).toNatClampNeg = 0 from rfl, Nat.zero_add]; exact hm1) (by rw [hm, show (0 : Int32).toNatClampNeg = 0 from rfl, Nat.zero_add]; exact hm2) (fun _ _ => rfl)  (by rw [C.2.2.2.2.2.2.2.2]; exact hfr) (by rw [C.2.2.2.2.2.2.2.2]; exact hlo) hdg (fun H1 locs1 hP1 hD1 hS1 => ?_)
  have es := zP_set (S1 := rD S b (va_cpy (zD S a) (zD S b) 0 0 m)) hD hL2 hq1 (zF_d hK2) rfl (zF_d hK2) (fun x hx => rD_F (xy X) S b _ x hx)
  have er : zD (rD S b (va_cpy (zD S a) (zD S b) 0 0 m)) b = va_cpy (zD S a) (zD S b) 0 0 m := if_pos rfl
  rw [er] at es
  have en : zN (rD S b (va_cpy (zD S a) (zD S b) 0 0 m)) b = zN S b := rfl
  rw [en] at es
  rw [hm] at hP1 hD1
  have e0 : (0 : Int32).toNatClampNeg = 0 := rfl
  rw [e0] at hP1 hD1
  rw [es] at hP1 hD1
  exact kk a b _ rfl h H1 locs1 ls hP1 hD1 hS1 hl
theorem g_iret (C : CxOK X cc own rm) {S0 : Hp} {v : Int32} {o : Int32 × Hp} (hQ : QI X (some .int) S0 k n o) (hdg : decode cc pc = .ok (.ireturn, 1)) (h : some (v, S) = some o) : GW X k n S pc lv [.int v] := by
  cases h
  intro H locs ls hP hD hS hl
  rw [hQ.2.1]
  exact W.iret C.1 C.2.1 hQ.1 (fun t ht hW => ⟨⟨v, (), rfl, rfl, by rw [ht]; exact hP, va_K.moved hW.alike C.2.2.2.2.2.1, by rw [← hQ.2.2]; exact hD⟩, hS.F ht⟩) hS.2.2 hdg C.2.2.2.2.2.2.2.1
theorem g_lret (C : CxOK X cc own rm) {S0 : Hp} {v : Int64} {o : Int64 × Hp} (hQ : QJ X (some .long) S0 k n o) (hdg : decode cc pc = .ok (.lreturn, 1)) (h : some (v, S) = some o) : GW X k n S pc lv [.long v] := by
  cases h
  intro H locs ls hP hD hS hl
  rw [hQ.2.1]
  exact W.lret C.1 C.2.1 hQ.1 (fun t ht hW => ⟨⟨v, (), rfl, rfl, by rw [ht]; exact hP, va_K.moved hW.alike C.2.2.2.2.2.1, by rw [← hQ.2.2]; exact hD⟩, hS.F ht⟩) hS.2.2 hdg C.2.2.2.2.2.2.2.1
theorem g_dret (C : CxOK X cc own rm) {S0 : Hp} {v : UInt64} {o : UInt64 × Hp} (hQ : QD X (some .double) S0 k n o) (hdg : decode cc pc = .ok (.dreturn, 1)) (h : some (v, S) = some o) : GW X k n S pc lv [.double v] := by
  cases h
  intro H locs ls hP hD hS hl
  rw [hQ.2.1]
  exact W.dret C.1 C.2.1 hQ.1 (fun t ht hW => ⟨⟨v, (), rfl, rfl, by rw [ht]; exact hP, va_K.moved hW.alike C.2.2.2.2.2.1, by rw [← hQ.2.2]; exact hD⟩, hS.F ht⟩) hS.2.2 hdg C.2.2.2.2.2.2.2.1
theorem g_zret (C : CxOK X cc own rm) {S0 : Hp} {v : Int32} {o : Int32 × Hp} (hQ : QI X (some .boolean) S0 k n o) (hn : narrow .boolean (.int v) = .int v) (hdg : decode cc pc = .ok (.ireturn, 1)) (h : some (v, S) = some o) : GW X k n S pc lv [.int v] := by
  cases h
  intro H locs ls hP hD hS hl
  rw [hQ.2.1]
  exact W.zret C.1 C.2.1 hQ.1 hn (fun t ht hW => ⟨⟨v, (), rfl, rfl, by rw [ht]; exact hP, va_K.moved hW.alike C.2.2.2.2.2.1, by rw [← hQ.2.2]; exact hD⟩, hS.F ht⟩) hS.2.2 hdg C.2.2.2.2.2.2.2.1
theorem g_zretg (C : CxOK X cc own rm) {S0 : Hp} {v : Int32} {o : Int32 × Hp} (hQ : QI X (some .boolean) S0 k n o) (hdg : decode cc pc = .ok (.ireturn, 1)) (h : gd (v = 0 ∨ v = 1) (some (v, S)) = some o) : GW X k n S pc lv [.int v] := by
  obtain ⟨hc, h⟩ := gd_el h
  refine g_zret C hQ ?_ hdg h
  rcases hc with rfl | rfl <;> decide
theorem g_aret (C : CxOK X cc own rm) {S0 : Hp} {v : Option Nat} {nm : String} {o : Option Nat × Hp} (hQ : QR X (some (.object nm)) S0 k n o) (hdg : decode cc pc = .ok (.areturn, 1)) (h : some (v, S) = some o) : GW X k n S pc lv [va_rf v] := by
  cases h
  intro H locs ls hP hD hS hl
  rw [hQ.2.1]
  exact W.aret C.1 C.2.1 hQ.1 (Or.inl ⟨nm, rfl⟩) (va_rf_or v) (fun t ht hW => ⟨⟨v, (), rfl, rfl, by rw [ht]; exact hP, va_K.moved hW.alike C.2.2.2.2.2.1, by rw [← hQ.2.2]; exact hD⟩, hS.F ht⟩) hS.2.2 hdg C.2.2.2.2.2.2.2.1
theorem g_vret (C : CxOK X cc own rm) {S0 : Hp} {o : Unit × Hp} (hQ : QV X none S0 k n o) (hdg : decode cc pc = .ok (.return_, 1)) (h : some ((), S) = some o) : GW X k n S pc lv [] := by
  cases h
  intro H locs ls hP hD hS hl
  rw [hQ.2.1]
  exact W.vret C.1 C.2.1 hQ.1 (fun t ht hW => ⟨⟨(), rfl, trivial, by rw [ht]; exact hP, va_K.moved hW.alike C.2.2.2.2.2.1, by rw [← hQ.2.2]; exact hD⟩, hS.F ht⟩) hS.2.2 hdg C.2.2.2.2.2.2.2.1
theorem good_all {ws : List Cond} (h : ∀ w ∈ ws, w ∈ wsL_law) : GoodIn wsL_law ws := fun w hw => ⟨h w hw, good_of_word (List.all_eq_true.mp wd_good w (h w hw))⟩
theorem good_V {idx : Nat} {C : String} {y : MethodName} {c : Cond} (h1 : Cond.methodLink own idx y ∈ wsL_law) (h2 : Cond.instanceMethod y ∈ wsL_law) (h3 : Cond.selects C y y ∈ wsL_law) (h4 : Cond.initialized C ∈ wsL_law) (h5 : c ∈ wsL_law) : GoodIn wsL_law (wsV own idx C y (c :: wsL_law)) := good_all (fun w hw => by
  unfold wsV at hw
  rcases List.mem_append.mp hw with h | h
  · simp only [List.mem_cons, List.not_mem_nil, or_false] at h
    rcases h with rfl | rfl | rfl | rfl <;> assumption
  · rcases List.mem_cons.mp h with rfl | h
    · exact h5
    · exact h)
theorem good_S {idx : Nat} {y : MethodName} {c : Cond} (h1 : Cond.methodLink own idx y ∈ wsL_law) (h2 : Cond.static y ∈ wsL_law) (h4 : Cond.initialized y.cls ∈ wsL_law) (h5 : c ∈ wsL_law) : GoodIn wsL_law (va_wsS own idx y (c :: wsL_law)) := good_all (fun w hw => by
  unfold va_wsS at hw
  rcases List.mem_append.mp hw with h | h
  · simp only [List.mem_cons, List.not_mem_nil, or_false] at h
    rcases h with rfl | rfl | rfl <;> assumption
  · rcases List.mem_cons.mp h with rfl | h
    · exact h5
    · exact h)
theorem zfree (C : CxOK X cc own rm) {H : Heap} {locs : List Loc} (hD : va_D (xA X) (zP (xy X) S)) (hS : va_S (xA X) (xs X).heap H locs) : ∀ q, va_A (zP (xy X) S) H.size q → xA X q := by
  intro q h
  rcases h with ⟨j, e, h⟩ | h
  · exact hD.2 j _ h
  · exact C.2.2.2.2.2.2.1 q (Nat.le_trans hS.1 h)
theorem g_callVI (C : CxOK X cc own rm) {β : Type} {o : β} {K : Int32 → Hp → Option β} {F : Nat → Option (Int32 × Hp)} {y : MethodName} {cy : ByteArray} {nL np idx ci N : Nat} {ret : Option FieldType} {rm1 : Room} {As st0 : List Value} {r : Option Nat} {Cn : String} {T : u_T} (hc : vwCl[ci]? = some (Cn, T, N)) (hci : ci < 7)
    (hct : ∀ b q, F b = some q → CtI y cy nL ret rm1 0 0 (va_rf (some b) :: As) S q) (hg : GoodIn wsL_law (wsV own idx Cn y (.code y cy nL ret :: wsL_law))) (hcells : rm1.cells = 0) (hslots : rm1.slots = 0) (hds : y.cls = Cn ∧ y.cls ≠ "java/lang/invoke/MethodHandle" ∧ y.cls ≠ "java/lang/invoke/VarHandle" ∧ (parseMethodDescriptor y.desc).map (fun d => d.parameters.length) = some np) (hnp : As.length = np) (hR : rm1.frames + 1 ≤ rm.frames ∧ 8 + (nL + 11) + rm1.locals ≤ rm.locals) (hst : st0 = As.reverse ++ va_rf r :: st) (hsum : (st.map fun v => v.category).sum ≤ 8) (hfit : k ≤ rm.cells ∧ n ≤ rm.slots) (hdg : decode cc pc = .ok (.invokevirtual idx, 3))
    (h : ob S ci r (fun b => cl (F b) K) = some o) (kk : ∀ v S1, K v S1 = some o → GW X k n S1 (pc + 3) lv (.int v :: st)) : GW X k n S pc lv st0 := by
  subst hst
  obtain ⟨b, rfl, hL, hK, h⟩ := ob_el h
  obtain ⟨r1, S1, hF, h⟩ := cl_el h
  intro H locs ls hP hD hS hl
  have hfr := zfree C hD hS
  have hRX := C.2.2.2.2.2.2.2.2
  obtain ⟨q, hq⟩ := zP_get (cy := xy X) hL (zF_o hK hci)
  refine va_calli (va_runV (As := As) (rest := st) ⟨C.1, C.2.1, C.2.2.1, C.2.2.2.1, C.2.2.2.2.1⟩ (hct b _ hF (xl X) (xG X) (xy X) H.size) (cwV np C.2.2.2.2.1 hg rfl hcells hslots hds (by rw [hRX]; exact hR)) ⟨ct_bl, va_recv C.2.2.2.2.2.1 hP hc hq, fun U hU hW => ⟨rfl, by rw [hU], by rw [hU]; exact hP, va_K.moved hW.alike C.2.2.2.2.2.1, hD.weaken (fun _ _ _ _ => trivial)⟩⟩ rfl hnp hl.1 rfl (lv_room hsum) hdg (by rw [hRX]; exact hfit)) hS (fun q _ h => hfr q h) hfr (fun r u t H1 locs1 ht hvm hw hB hz1 hk1 hS1 => ?_)
  cases hw; obtain ⟨hP1, hK1, hD1⟩ := hB
  rw [ht] at hP1
  exact kk r1 S1 h H1 locs1 ls hP1 (hD1.weaken (fun _ q _ h => hfr q.1 h)) hS1 hl
theorem g_callSI (C : CxOK X cc own rm) {β : Type} {o : β} {K : Int32 → Hp → Option β} {F : Option (Int32 × Hp)} {y : MethodName} {cy : ByteArray} {nL np idx : Nat} {ret : Option FieldType} {rm1 : Room} {As st0 : List Value}
    (hct : ∀ q, F = some q → CtI y cy nL ret rm1 0 0 As S q) (hg : GoodIn wsL_law (va_wsS own idx y (.code y cy nL ret :: wsL_law))) (hcells : rm1.cells = 0) (hslots : rm1.slots = 0) (hds : y.cls ≠ "java/lang/invoke/MethodHandle" ∧ y.cls ≠ "java/lang/invoke/VarHandle" ∧ (parseMethodDescriptor y.desc).map (fun d => d.parameters.length) = some np) (hnp : As.length = np) (hR : rm1.frames + 1 ≤ rm.frames ∧ 8 + (nL + 11) + rm1.locals ≤ rm.locals) (hst : st0 = As.reverse ++ st) (hsum : (st.map fun v => v.category).sum ≤ 8) (hfit : k ≤ rm.cells ∧ n ≤ rm.slots) (hdg : decode cc pc = .ok (.invokestatic idx, 3))
    (h : cl F K = some o) (kk : ∀ v S1, K v S1 = some o → GW X k n S1 (pc + 3) lv (.int v :: st)) : GW X k n S pc lv st0 := by
  subst hst
  obtain ⟨r1, S1, hF, h⟩ := cl_el h
  intro H locs ls hP hD hS hl
  have hfr := zfree C hD hS
  have hRX := C.2.2.2.2.2.2.2.2
  refine va_calli (va_runS (As := As) (rest := st) ⟨C.1, C.2.1, C.2.2.1, C.2.2.2.1, C.2.2.2.2.1⟩ (hct _ hF (xl X) (xG X) (xy X) H.size) (va_cwS np C.2.2.2.2.1 hg rfl hcells hslots hds (by rw [hRX]; exact hR)) ⟨ct_bl, fun U hU hW => ⟨rfl, by rw [hU], by rw [hU]; exact hP, va_K.moved hW.alike C.2.2.2.2.2.1, hD.weaken (fun _ _ _ _ => trivial)⟩⟩ rfl hnp hl.1 rfl (lv_room hsum) hdg (by rw [hRX]; exact hfit)) hS (fun q _ h => hfr q h) hfr (fun r u t H1 locs1 ht hvm hw hB hz1 hk1 hS1 => ?_)
  cases hw; obtain ⟨hP1, hK1, hD1⟩ := hB
  rw [ht] at hP1
  exact kk r1 S1 h H1 locs1 ls hP1 (hD1.weaken (fun _ q _ h => hfr q.1 h)) hS1 hl
theorem g_callVJ (C : CxOK X cc own rm) {β : Type} {o : β} {K : Int64 → Hp → Option β} {F : Nat → Option (Int64 × Hp)} {y : MethodName} {cy : ByteArray} {nL np idx ci N : Nat} {ret : Option FieldType} {rm1 : Room} {As st0 : List Value} {r : Option Nat} {Cn : String} {T : u_T} (hc : vwCl[ci]? = some (Cn, T, N)) (hci : ci < 7)
    (hct : ∀ b q, F b = some q → CtJ y cy nL ret rm1 0 0 (va_rf (some b) :: As) S q) (hg : GoodIn wsL_law (wsV own idx Cn y (.code y cy nL ret :: wsL_law))) (hcells : rm1.cells = 0) (hslots : rm1.slots = 0) (hds : y.cls = Cn ∧ y.cls ≠ "java/lang/invoke/MethodHandle" ∧ y.cls ≠ "java/lang/invoke/VarHandle" ∧ (parseMethodDescriptor y.desc).map (fun d => d.parameters.length) = some np) (hnp : As.length = np) (hR : rm1.frames + 1 ≤ rm.frames ∧ 8 + (nL + 11) + rm1.locals ≤ rm.locals) (hst : st0 = As.reverse ++ va_rf r :: st) (hsum : (st.map fun v => v.category).sum ≤ 8) (hfit : k ≤ rm.cells ∧ n ≤ rm.slots) (hdg : decode cc pc = .ok (.invokevirtual idx, 3))
    (h : ob S ci r (fun b => cl (F b) K) = some o) (kk : ∀ v S1, K v S1 = some o → GW X k n S1 (pc + 3) lv (.long v :: st)) : GW X k n S pc lv st0 := by
  subst hst
  obtain ⟨b, rfl, hL, hK, h⟩ := ob_el h
  obtain ⟨r1, S1, hF, h⟩ := cl_el h
  intro H locs ls hP hD hS hl
  have hfr := zfree C hD hS
  have hRX := C.2.2.2.2.2.2.2.2
  obtain ⟨q, hq⟩ := zP_get (cy := xy X) hL (zF_o hK hci)
  refine va_calll (va_runV (As := As) (rest := st) ⟨C.1, C.2.1, C.2.2.1, C.2.2.2.1, C.2.2.2.2.1⟩ (hct b _ hF (xl X) (xG X) (xy X) H.size) (cwV np C.2.2.2.2.1 hg rfl hcells hslots hds (by rw [hRX]; exact hR)) ⟨ct_bl, va_recv C.2.2.2.2.2.1 hP hc hq, fun U hU hW => ⟨rfl, by rw [hU], by rw [hU]; exact hP, va_K.moved hW.alike C.2.2.2.2.2.1, hD.weaken (fun _ _ _ _ => trivial)⟩⟩ rfl hnp hl.1 rfl (lv_room hsum) hdg (by rw [hRX]; exact hfit)) hS (fun q _ h => hfr q h) hfr (fun r u t H1 locs1 ht hvm hw hB hz1 hk1 hS1 => ?_)
  cases hw; obtain ⟨hP1, hK1, hD1⟩ := hB
  rw [ht] at hP1
  exact kk r1 S1 h H1 locs1 ls hP1 (hD1.weaken (fun _ q _ h => hfr q.1 h)) hS1 hl
theorem g_callSJ (C : CxOK X cc own rm) {β : Type} {o : β} {K : Int64 → Hp → Option β} {F : Option (Int64 × Hp)} {y : MethodName} {cy : ByteArray} {nL np idx : Nat} {ret : Option FieldType} {rm1 : Room} {As st0 : List Value}
    (hct : ∀ q, F = some q → CtJ y cy nL ret rm1 0 0 As S q) (hg : GoodIn wsL_law (va_wsS own idx y (.code y cy nL ret :: wsL_law))) (hcells : rm1.cells = 0) (hslots : rm1.slots = 0) (hds : y.cls ≠ "java/lang/invoke/MethodHandle" ∧ y.cls ≠ "java/lang/invoke/VarHandle" ∧ (parseMethodDescriptor y.desc).map (fun d => d.parameters.length) = some np) (hnp : As.length = np) (hR : rm1.frames + 1 ≤ rm.frames ∧ 8 + (nL + 11) + rm1.locals ≤ rm.locals) (hst : st0 = As.reverse ++ st) (hsum : (st.map fun v => v.category).sum ≤ 8) (hfit : k ≤ rm.cells ∧ n ≤ rm.slots) (hdg : decode cc pc = .ok (.invokestatic idx, 3))
    (h : cl F K = some o) (kk : ∀ v S1, K v S1 = some o → GW X k n S1 (pc + 3) lv (.long v :: st)) : GW X k n S pc lv st0 := by
  subst hst
  obtain ⟨r1, S1, hF, h⟩ := cl_el h
  intro H locs ls hP hD hS hl
  have hfr := zfree C hD hS
  have hRX := C.2.2.2.2.2.2.2.2
  refine va_calll (va_runS (As := As) (rest := st) ⟨C.1, C.2.1, C.2.2.1, C.2.2.2.1, C.2.2.2.2.1⟩ (hct _ hF (xl X) (xG X) (xy X) H.size) (va_cwS np C.2.2.2.2.1 hg rfl hcells hslots hds (by rw [hRX]; exact hR)) ⟨ct_bl, fun U hU hW => ⟨rfl, by rw [hU], by rw [hU]; exact hP, va_K.moved hW.alike C.2.2.2.2.2.1, hD.weaken (fun _ _ _ _ => trivial)⟩⟩ rfl hnp hl.1 rfl (lv_room hsum) hdg (by rw [hRX]; exact hfit)) hS (fun q _ h => hfr q h) hfr (fun r u t H1 locs1 ht hvm hw hB hz1 hk1 hS1 => ?_)
  cases hw; obtain ⟨hP1, hK1, hD1⟩ := hB
  rw [ht] at hP1
  exact kk r1 S1 h H1 locs1 ls hP1 (hD1.weaken (fun _ q _ h => hfr q.1 h)) hS1 hl
theorem g_callVD (C : CxOK X cc own rm) {β : Type} {o : β} {K : UInt64 → Hp → Option β} {F : Nat → Option (UInt64 × Hp)} {y : MethodName} {cy : ByteArray} {nL np idx ci N : Nat} {ret : Option FieldType} {rm1 : Room} {As st0 : List Value} {r : Option Nat} {Cn : String} {T : u_T} (hc : vwCl[ci]? = some (Cn, T, N)) (hci : ci < 7)
    (hct : ∀ b q, F b = some q → CtD y cy nL ret rm1 0 0 (va_rf (some b) :: As) S q) (hg : GoodIn wsL_law (wsV own idx Cn y (.code y cy nL ret :: wsL_law))) (hcells : rm1.cells = 0) (hslots : rm1.slots = 0) (hds : y.cls = Cn ∧ y.cls ≠ "java/lang/invoke/MethodHandle" ∧ y.cls ≠ "java/lang/invoke/VarHandle" ∧ (parseMethodDescriptor y.desc).map (fun d => d.parameters.length) = some np) (hnp : As.length = np) (hR : rm1.frames + 1 ≤ rm.frames ∧ 8 + (nL + 11) + rm1.locals ≤ rm.locals) (hst : st0 = As.reverse ++ va_rf r :: st) (hsum : (st.map fun v => v.category).sum ≤ 8) (hfit : k ≤ rm.cells ∧ n ≤ rm.slots) (hdg : decode cc pc = .ok (.invokevirtual idx, 3))
    (h : ob S ci r (fun b => cl (F b) K) = some o) (kk : ∀ v S1, K v S1 = some o → GW X k n S1 (pc + 3) lv (.double v :: st)) : GW X k n S pc lv st0 := by
  subst hst
  obtain ⟨b, rfl, hL, hK, h⟩ := ob_el h
  obtain ⟨r1, S1, hF, h⟩ := cl_el h
  intro H locs ls hP hD hS hl
  have hfr := zfree C hD hS
  have hRX := C.2.2.2.2.2.2.2.2
  obtain ⟨q, hq⟩ := zP_get (cy := xy X) hL (zF_o hK hci)
  refine va_calld (va_runV (As := As) (rest := st) ⟨C.1, C.2.1, C.2.2.1, C.2.2.2.1, C.2.2.2.2.1⟩ (hct b _ hF (xl X) (xG X) (xy X) H.size) (cwV np C.2.2.2.2.1 hg rfl hcells hslots hds (by rw [hRX]; exact hR)) ⟨ct_bl, va_recv C.2.2.2.2.2.1 hP hc hq, fun U hU hW => ⟨rfl, by rw [hU], by rw [hU]; exact hP, va_K.moved hW.alike C.2.2.2.2.2.1, hD.weaken (fun _ _ _ _ => trivial)⟩⟩ rfl hnp hl.1 rfl (lv_room hsum) hdg (by rw [hRX]; exact hfit)) hS (fun q _ h => hfr q h) hfr (fun r u t H1 locs1 ht hvm hw hB hz1 hk1 hS1 => ?_)
  cases hw; obtain ⟨hP1, hK1, hD1⟩ := hB
  rw [ht] at hP1
  exact kk r1 S1 h H1 locs1 ls hP1 (hD1.weaken (fun _ q _ h => hfr q.1 h)) hS1 hl
theorem g_callSD (C : CxOK X cc own rm) {β : Type} {o : β} {K : UInt64 → Hp → Option β} {F : Option (UInt64 × Hp)} {y : MethodName} {cy : ByteArray} {nL np idx : Nat} {ret : Option FieldType} {rm1 : Room} {As st0 : List Value}
    (hct : ∀ q, F = some q → CtD y cy nL ret rm1 0 0 As S q) (hg : GoodIn wsL_law (va_wsS own idx y (.code y cy nL ret :: wsL_law))) (hcells : rm1.cells = 0) (hslots : rm1.slots = 0) (hds : y.cls ≠ "java/lang/invoke/MethodHandle" ∧ y.cls ≠ "java/lang/invoke/VarHandle" ∧ (parseMethodDescriptor y.desc).map (fun d => d.parameters.length) = some np) (hnp : As.length = np) (hR : rm1.frames + 1 ≤ rm.frames ∧ 8 + (nL + 11) + rm1.locals ≤ rm.locals) (hst : st0 = As.reverse ++ st) (hsum : (st.map fun v => v.category).sum ≤ 8) (hfit : k ≤ rm.cells ∧ n ≤ rm.slots) (hdg : decode cc pc = .ok (.invokestatic idx, 3))
    (h : cl F K = some o) (kk : ∀ v S1, K v S1 = some o → GW X k n S1 (pc + 3) lv (.double v :: st)) : GW X k n S pc lv st0 := by
  subst hst
  obtain ⟨r1, S1, hF, h⟩ := cl_el h
  intro H locs ls hP hD hS hl
  have hfr := zfree C hD hS
  have hRX := C.2.2.2.2.2.2.2.2
  refine va_calld (va_runS (As := As) (rest := st) ⟨C.1, C.2.1, C.2.2.1, C.2.2.2.1, C.2.2.2.2.1⟩ (hct _ hF (xl X) (xG X) (xy X) H.size) (va_cwS np C.2.2.2.2.1 hg rfl hcells hslots hds (by rw [hRX]; exact hR)) ⟨ct_bl, fun U hU hW => ⟨rfl, by rw [hU], by rw [hU]; exact hP, va_K.moved hW.alike C.2.2.2.2.2.1, hD.weaken (fun _ _ _ _ => trivial)⟩⟩ rfl hnp hl.1 rfl (lv_room hsum) hdg (by rw [hRX]; exact hfit)) hS (fun q _ h => hfr q h) hfr (fun r u t H1 locs1 ht hvm hw hB hz1 hk1 hS1 => ?_)
  cases hw; obtain ⟨hP1, hK1, hD1⟩ := hB
  rw [ht] at hP1
  exact kk r1 S1 h H1 locs1 ls hP1 (hD1.weaken (fun _ q _ h => hfr q.1 h)) hS1 hl
theorem g_callVR (C : CxOK X cc own rm) {β : Type} {o : β} {K : Option Nat → Hp → Option β} {F : Nat → Option (Option Nat × Hp)} {y : MethodName} {cy : ByteArray} {nL np idx ci N : Nat} {ret : Option FieldType} {rm1 : Room} {As st0 : List Value} {r : Option Nat} {Cn : String} {T : u_T} (hc : vwCl[ci]? = some (Cn, T, N)) (hci : ci < 7)
    (hct : ∀ b q, F b = some q → CtR y cy nL ret rm1 0 0 (va_rf (some b) :: As) S q) (hg : GoodIn wsL_law (wsV own idx Cn y (.code y cy nL ret :: wsL_law))) (hcells : rm1.cells = 0) (hslots : rm1.slots = 0) (hds : y.cls = Cn ∧ y.cls ≠ "java/lang/invoke/MethodHandle" ∧ y.cls ≠ "java/lang/invoke/VarHandle" ∧ (parseMethodDescriptor y.desc).map (fun d => d.parameters.length) = some np) (hnp : As.length = np) (hR : rm1.frames + 1 ≤ rm.frames ∧ 8 + (nL + 11) + rm1.locals ≤ rm.locals) (hst : st0 = As.reverse ++ va_rf r :: st) (hsum : (st.map fun v => v.category).sum ≤ 8) (hfit : k ≤ rm.cells ∧ n ≤ rm.slots) (hdg : decode cc pc = .ok (.invokevirtual idx, 3))
    (h : ob S ci r (fun b => cl (F b) K) = some o) (kk : ∀ v S1, K v S1 = some o → GW X k n S1 (pc + 3) lv (va_rf v :: st)) : GW X k n S pc lv st0 := by
  subst hst
  obtain ⟨b, rfl, hL, hK, h⟩ := ob_el h
  obtain ⟨r1, S1, hF, h⟩ := cl_el h
  intro H locs ls hP hD hS hl
  have hfr := zfree C hD hS
  have hRX := C.2.2.2.2.2.2.2.2
  obtain ⟨q, hq⟩ := zP_get (cy := xy X) hL (zF_o hK hci)
  refine va_callq (va_runV (As := As) (rest := st) ⟨C.1, C.2.1, C.2.2.1, C.2.2.2.1, C.2.2.2.2.1⟩ (hct b _ hF (xl X) (xG X) (xy X) H.size) (cwV np C.2.2.2.2.1 hg rfl hcells hslots hds (by rw [hRX]; exact hR)) ⟨ct_bl, va_recv C.2.2.2.2.2.1 hP hc hq, fun U hU hW => ⟨rfl, by rw [hU], by rw [hU]; exact hP, va_K.moved hW.alike C.2.2.2.2.2.1, hD.weaken (fun _ _ _ _ => trivial)⟩⟩ rfl hnp hl.1 rfl (lv_room hsum) hdg (by rw [hRX]; exact hfit)) hS (fun q _ h => hfr q h) hfr (fun r u t H1 locs1 ht hvm hw hB hz1 hk1 hS1 => ?_)
  cases hw; obtain ⟨hP1, hK1, hD1⟩ := hB
  rw [ht] at hP1
  exact kk r1 S1 h H1 locs1 ls hP1 (hD1.weaken (fun _ q _ h => hfr q.1 h)) hS1 hl
theorem g_callSR (C : CxOK X cc own rm) {β : Type} {o : β} {K : Option Nat → Hp → Option β} {F : Option (Option Nat × Hp)} {y : MethodName} {cy : ByteArray} {nL np idx : Nat} {ret : Option FieldType} {rm1 : Room} {As st0 : List Value}
    (hct : ∀ q, F = some q → CtR y cy nL ret rm1 0 0 As S q) (hg : GoodIn wsL_law (va_wsS own idx y (.code y cy nL ret :: wsL_law))) (hcells : rm1.cells = 0) (hslots : rm1.slots = 0) (hds : y.cls ≠ "java/lang/invoke/MethodHandle" ∧ y.cls ≠ "java/lang/invoke/VarHandle" ∧ (parseMethodDescriptor y.desc).map (fun d => d.parameters.length) = some np) (hnp : As.length = np) (hR : rm1.frames + 1 ≤ rm.frames ∧ 8 + (nL + 11) + rm1.locals ≤ rm.locals) (hst : st0 = As.reverse ++ st) (hsum : (st.map fun v => v.category).sum ≤ 8) (hfit : k ≤ rm.cells ∧ n ≤ rm.slots) (hdg : decode cc pc = .ok (.invokestatic idx, 3))
    (h : cl F K = some o) (kk : ∀ v S1, K v S1 = some o → GW X k n S1 (pc + 3) lv (va_rf v :: st)) : GW X k n S pc lv st0 := by
  subst hst
  obtain ⟨r1, S1, hF, h⟩ := cl_el h
  intro H locs ls hP hD hS hl
  have hfr := zfree C hD hS
  have hRX := C.2.2.2.2.2.2.2.2
  refine va_callq (va_runS (As := As) (rest := st) ⟨C.1, C.2.1, C.2.2.1, C.2.2.2.1, C.2.2.2.2.1⟩ (hct _ hF (xl X) (xG X) (xy X) H.size) (va_cwS np C.2.2.2.2.1 hg rfl hcells hslots hds (by rw [hRX]; exact hR)) ⟨ct_bl, fun U hU hW => ⟨rfl, by rw [hU], by rw [hU]; exact hP, va_K.moved hW.alike C.2.2.2.2.2.1, hD.weaken (fun _ _ _ _ => trivial)⟩⟩ rfl hnp hl.1 rfl (lv_room hsum) hdg (by rw [hRX]; exact hfit)) hS (fun q _ h => hfr q h) hfr (fun r u t H1 locs1 ht hvm hw hB hz1 hk1 hS1 => ?_)
  cases hw; obtain ⟨hP1, hK1, hD1⟩ := hB
  rw [ht] at hP1
  exact kk r1 S1 h H1 locs1 ls hP1 (hD1.weaken (fun _ q _ h => hfr q.1 h)) hS1 hl
theorem g_callVV (C : CxOK X cc own rm) {β : Type} {o : β} {K : Unit → Hp → Option β} {F : Nat → Option (Unit × Hp)} {y : MethodName} {cy : ByteArray} {nL np idx ci N : Nat} {ret : Option FieldType} {rm1 : Room} {As st0 : List Value} {r : Option Nat} {Cn : String} {T : u_T} (hc : vwCl[ci]? = some (Cn, T, N)) (hci : ci < 7)
    (hct : ∀ b q, F b = some q → CtV y cy nL ret rm1 0 0 (va_rf (some b) :: As) S q) (hg : GoodIn wsL_law (wsV own idx Cn y (.code y cy nL ret :: wsL_law))) (hcells : rm1.cells = 0) (hslots : rm1.slots = 0) (hds : y.cls = Cn ∧ y.cls ≠ "java/lang/invoke/MethodHandle" ∧ y.cls ≠ "java/lang/invoke/VarHandle" ∧ (parseMethodDescriptor y.desc).map (fun d => d.parameters.length) = some np) (hnp : As.length = np) (hR : rm1.frames + 1 ≤ rm.frames ∧ 8 + (nL + 11) + rm1.locals ≤ rm.locals) (hst : st0 = As.reverse ++ va_rf r :: st) (hsum : (st.map fun v => v.category).sum ≤ 8) (hfit : k ≤ rm.cells ∧ n ≤ rm.slots) (hdg : decode cc pc = .ok (.invokevirtual idx, 3))
    (h : ob S ci r (fun b => cl (F b) K) = some o) (kk : ∀ S1, K () S1 = some o → GW X k n S1 (pc + 3) lv (st)) : GW X k n S pc lv st0 := by
  subst hst
  obtain ⟨b, rfl, hL, hK, h⟩ := ob_el h
  obtain ⟨r1, S1, hF, h⟩ := cl_el h
  intro H locs ls hP hD hS hl
  have hfr := zfree C hD hS
  have hRX := C.2.2.2.2.2.2.2.2
  obtain ⟨q, hq⟩ := zP_get (cy := xy X) hL (zF_o hK hci)
  refine va_callv (va_runV (As := As) (rest := st) ⟨C.1, C.2.1, C.2.2.1, C.2.2.2.1, C.2.2.2.2.1⟩ (hct b _ hF (xl X) (xG X) (xy X) H.size) (cwV np C.2.2.2.2.1 hg rfl hcells hslots hds (by rw [hRX]; exact hR)) ⟨ct_bl, va_recv C.2.2.2.2.2.1 hP hc hq, fun U hU hW => ⟨rfl, by rw [hU], by rw [hU]; exact hP, va_K.moved hW.alike C.2.2.2.2.2.1, hD.weaken (fun _ _ _ _ => trivial)⟩⟩ rfl hnp hl.1 rfl (lv_room hsum) hdg (by rw [hRX]; exact hfit)) hS (fun q _ h => hfr q h) hfr (fun u t H1 locs1 ht hvm hw hB hz1 hk1 hS1 => ?_)
  obtain ⟨hP1, hK1, hD1⟩ := hB
  rw [ht] at hP1
  exact kk S1 h H1 locs1 ls hP1 (hD1.weaken (fun _ q _ h => hfr q.1 h)) hS1 hl
theorem g_callSV (C : CxOK X cc own rm) {β : Type} {o : β} {K : Unit → Hp → Option β} {F : Option (Unit × Hp)} {y : MethodName} {cy : ByteArray} {nL np idx : Nat} {ret : Option FieldType} {rm1 : Room} {As st0 : List Value}
    (hct : ∀ q, F = some q → CtV y cy nL ret rm1 0 0 As S q) (hg : GoodIn wsL_law (va_wsS own idx y (.code y cy nL ret :: wsL_law))) (hcells : rm1.cells = 0) (hslots : rm1.slots = 0) (hds : y.cls ≠ "java/lang/invoke/MethodHandle" ∧ y.cls ≠ "java/lang/invoke/VarHandle" ∧ (parseMethodDescriptor y.desc).map (fun d => d.parameters.length) = some np) (hnp : As.length = np) (hR : rm1.frames + 1 ≤ rm.frames ∧ 8 + (nL + 11) + rm1.locals ≤ rm.locals) (hst : st0 = As.reverse ++ st) (hsum : (st.map fun v => v.category).sum ≤ 8) (hfit : k ≤ rm.cells ∧ n ≤ rm.slots) (hdg : decode cc pc = .ok (.invokestatic idx, 3))
    (h : cl F K = some o) (kk : ∀ S1, K () S1 = some o → GW X k n S1 (pc + 3) lv (st)) : GW X k n S pc lv st0 := by
  subst hst
  obtain ⟨r1, S1, hF, h⟩ := cl_el h
  intro H locs ls hP hD hS hl
  have hfr := zfree C hD hS
  have hRX := C.2.2.2.2.2.2.2.2
  refine va_callv (va_runS (As := As) (rest := st) ⟨C.1, C.2.1, C.2.2.1, C.2.2.2.1, C.2.2.2.2.1⟩ (hct _ hF (xl X) (xG X) (xy X) H.size) (va_cwS np C.2.2.2.2.1 hg rfl hcells hslots hds (by rw [hRX]; exact hR)) ⟨ct_bl, fun U hU hW => ⟨rfl, by rw [hU], by rw [hU]; exact hP, va_K.moved hW.alike C.2.2.2.2.2.1, hD.weaken (fun _ _ _ _ => trivial)⟩⟩ rfl hnp hl.1 rfl (lv_room hsum) hdg (by rw [hRX]; exact hfit)) hS (fun q _ h => hfr q h) hfr (fun u t H1 locs1 ht hvm hw hB hz1 hk1 hS1 => ?_)
  obtain ⟨hP1, hK1, hD1⟩ := hB
  rw [ht] at hP1
  exact kk S1 h H1 locs1 ls hP1 (hD1.weaken (fun _ q _ h => hfr q.1 h)) hS1 hl
end GR2
end
