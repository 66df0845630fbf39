/-! the moving predicate; throw sites -/
def xnm2 : List String := ["java/lang/RuntimeException", "java/lang/Exception"]
def xB : List Cond := [.declares (Bundle.initS "java/lang/RuntimeException"), .declares (Bundle.initS "java/lang/Exception"), .declares (Bundle.initS Bundle.tN), .castable (xen 50) (xen 50), .castable (xen 51) (xen 51)]
def xstrs : List (Nat × String) := [(131, "no such space"), (142, "what is 0 to 7"), (170, "what is 0 to 8"), (184, "what is 0 to 3"), (195, "no such max, most, weight or quota"), (208, "pages are 0 to 1000000"), (221, "pages are 0 or more"), (236, "badness is -10 to 10"), (241, "ticks are 0 to 200"), (261, "volumes are 0 to 9"), (296, "no such view"), (307, "what is 0 to 4")]
def XPP (t : State) : Prop := (va_Nw (.methodLinkNest "TaskTrees" 9 yX2_init "TaskTrees") t ∧ va_Nw (.methodLinkNest "TaskTrees" 18 yX9_init "TaskTrees") t ∧ va_Nw (.methodLinkNest "TaskTrees$MountTable" 25 yX6_init "TaskTrees") t) ∧ (∀ c, c = 8 ∨ c = 7 ∨ c = 1 ∨ c = 4 ∨ c = 10 → va_AO (xnm c) t) ∧ (∀ w ∈ xB, va_Nw w t) ∧ (∀ q ∈ xstrs, ∃ sa, vk_R "TaskTrees" q.1 q.2 sa t) ∧ va_Nc (xen 51) (xen 50) t
theorem xpp_w : XPw XPP := by
  intro s t hW h
  obtain ⟨⟨h1, h2, h3⟩, h4, h5, h6, h7⟩ := h
  refine ⟨⟨va_Nw.warmM hW h1, va_Nw.warmM hW h2, va_Nw.warmM hW h3⟩, fun c hc => va_AO.moved hW.alike (h4 c hc), fun w hw => ?_, fun q hq => ?_, h7.moved hW.alike⟩
  · have hz := h5 w hw
    simp only [xB, List.mem_cons, List.not_mem_nil, or_false] at hw
    rcases hw with rfl | rfl | rfl | rfl | rfl
    · exact va_Nw.warmD hW hz
    · exact va_Nw.warmD hW hz
    · exact va_Nw.warmD hW hz
    · exact va_Nw.warmC hW hz
    · exact va_Nw.warmC hW hz
  · obtain ⟨sa, hs⟩ := h6 q hq
    exact ⟨sa, hs.warm hW⟩
set_option maxRecDepth 100000 in
theorem xpp_n : XPn XPP := by
  refine ⟨fun s h => h.2.1, fun s h o x mj n q hx => ?_⟩
  obtain ⟨h1, h2, h3⟩ := xlk_key (l := xmdL) hx
  have key : ∀ e ∈ xmdL, e.2.2.2.2 = 95 → (e.1 = 11009 ∧ e.2.1 = 24) ∨ (e.1 = 11018 ∧ e.2.1 = 79) ∨ (e.1 = 5025 ∧ e.2.1 = 57) := by decide +kernel
  have h4 := key _ h1 rfl
  rcases h4 with ⟨a, b⟩ | ⟨a, b⟩ | ⟨a, b⟩
  · have a : 1000 * o + x = 11009 := a
    have b : mj = 24 := b
    obtain ⟨rfl, rfl⟩ : o = 11 ∧ x = 9 := by omega
    subst b
    exact ⟨_, h.1.1⟩
  · have a : 1000 * o + x = 11018 := a
    have b : mj = 79 := b
    obtain ⟨rfl, rfl⟩ : o = 11 ∧ x = 18 := by omega
    subst b
    exact ⟨_, h.1.2.1⟩
  · have a : 1000 * o + x = 5025 := a
    have b : mj = 57 := b
    obtain ⟨rfl, rfl⟩ : o = 5 ∧ x = 25 := by omega
    subst b
    exact ⟨_, h.1.2.2⟩
theorem xpp_c : XPc2 XPP := by
  intro s h
  refine ⟨fun args => va_Nw.use rfl (h.2.2.1 _ (by simp [xB])), fun args => va_Nw.use rfl (h.2.2.1 _ (by simp [xB])), h.2.2.2.2⟩
set_option maxRecDepth 20000 in
theorem xg_50 : ∀ w ∈ Bundle.ownAtoms "TaskTrees" 133 (xen 50) xnm2, vx_no w = true → goodWord w = true → w ∈ xTs :=
  List.forall_mem_append.mpr ⟨List.forall_mem_append.mpr ⟨List.forall_mem_append.mpr ⟨List.forall_mem_cons.mpr ⟨(fun _ g => xin_at 67 rfl g), List.forall_mem_cons.mpr ⟨(fun _ g => xin_at 742 rfl g), List.forall_mem_cons.mpr ⟨(fun _ g => xin_at 751 rfl g), List.forall_mem_cons.mpr ⟨(fun _ g => xin_at 754 rfl g), List.forall_mem_cons.mpr ⟨(fun _ g => xin_at 757 rfl g), List.forall_mem_cons.mpr ⟨(fun _ g => xin_at 759 rfl g), List.forall_mem_cons.mpr ⟨(fun _ g => xin_at 743 rfl g), List.forall_mem_cons.mpr ⟨(fun _ g => xin_at 744 rfl g), List.forall_mem_cons.mpr ⟨(fun _ g => xin_at 78 rfl g), List.forall_mem_cons.mpr ⟨(fun _ g => xin_at 79 rfl g), List.forall_mem_cons.mpr ⟨(fun _ g => xin_at 745 rfl g), List.forall_mem_cons.mpr ⟨(fun _ g => xin_at 750 rfl g), List.forall_mem_cons.mpr ⟨(fun _ g => xin_at 755 rfl g), List.forall_mem_cons.mpr ⟨(fun _ g => xin_at 775 rfl g), List.forall_mem_cons.mpr ⟨(fun _ g => xin_at 732 rfl g), List.forall_mem_cons.mpr ⟨(fun _ g => xin_at 776 rfl g), List.forall_mem_cons.mpr ⟨(fun _ g => xin_at 734 rfl g), List.forall_mem_cons.mpr ⟨(fun _ g => xin_at 777 rfl g), List.forall_mem_cons.mpr ⟨(fun _ g => xin_at 736 rfl g), List.forall_mem_cons.mpr ⟨(fun _ g => xin_at 746 rfl g), List.forall_mem_cons.mpr ⟨(fun v _ => absurd v (by decide +kernel)), List.forall_mem_cons.mpr ⟨(fun _ g => xin_at 748 rfl g), List.forall_mem_cons.mpr ⟨(fun v _ => absurd v (by decide +kernel)), List.forall_mem_cons.mpr ⟨(fun _ g => xin_at 738 rfl g), fun _ h => absurd h List.not_mem_nil⟩⟩⟩⟩⟩⟩⟩⟩⟩⟩⟩⟩⟩⟩⟩⟩⟩⟩⟩⟩⟩⟩⟩⟩, List.forall_mem_cons.mpr ⟨(fun _ g => xin_at 771 rfl g), List.forall_mem_cons.mpr ⟨(fun _ g => xin_at 772 rfl g), List.forall_mem_cons.mpr ⟨(fun _ g => xin_at 774 rfl g), List.forall_mem_cons.mpr ⟨(fun _ g => xin_at 738 rfl g), fun _ h => absurd h List.not_mem_nil⟩⟩⟩⟩⟩, List.forall_mem_append.mpr ⟨List.forall_mem_cons.mpr ⟨(fun _ g => xin_at 762 rfl g), List.forall_mem_cons.mpr ⟨(fun _ g => xin_at 763 rfl g), List.forall_mem_cons.mpr ⟨(fun _ g => xin_at 764 rfl g), List.forall_mem_cons.mpr ⟨(fun _ g => xin_at 765 rfl g), List.forall_mem_cons.mpr ⟨(fun _ g => xin_at 724 rfl g), fun _ h => absurd h List.not_mem_nil⟩⟩⟩⟩⟩, List.forall_mem_append.mpr ⟨List.forall_mem_cons.mpr ⟨(fun _ g => xin_at 765 rfl g), List.forall_mem_cons.mpr ⟨(fun _ g => xin_at 766 rfl g), List.forall_mem_cons.mpr ⟨(fun _ g => xin_at 767 rfl g), List.forall_mem_cons.mpr ⟨(fun _ g => xin_at 768 rfl g), List.forall_mem_cons.mpr ⟨(fun _ g => xin_at 726 rfl g), fun _ h => absurd h List.not_mem_nil⟩⟩⟩⟩⟩, List.forall_mem_cons.mpr ⟨(fun _ g => xin_at 768 rfl g), List.forall_mem_cons.mpr ⟨(fun _ g => xin_at 769 rfl g), List.forall_mem_cons.mpr ⟨(fun _ g => xin_at 770 rfl g), List.forall_mem_cons.mpr ⟨(fun _ g => xin_at 771 rfl g), List.forall_mem_cons.mpr ⟨(fun _ g => xin_at 728 rfl g), fun _ h => absurd h List.not_mem_nil⟩⟩⟩⟩⟩⟩⟩⟩, List.forall_mem_cons.mpr ⟨(fun _ g => xin_at 761 rfl g), List.forall_mem_cons.mpr ⟨(fun _ g => xin_at 721 rfl g), List.forall_mem_cons.mpr ⟨(fun _ g => xin_at 722 rfl g), List.forall_mem_cons.mpr ⟨(fun _ g => xin_at 729 rfl g), List.forall_mem_cons.mpr ⟨(fun _ g => xin_at 730 rfl g), List.forall_mem_cons.mpr ⟨(fun _ g => xin_at 731 rfl g), List.forall_mem_cons.mpr ⟨(fun _ g => xin_at 733 rfl g), List.forall_mem_cons.mpr ⟨(fun _ g => xin_at 735 rfl g), List.forall_mem_cons.mpr ⟨(fun _ g => xin_at 737 rfl g), List.forall_mem_cons.mpr ⟨(fun v _ => absurd v (by decide +kernel)), List.forall_mem_cons.mpr ⟨(fun v _ => absurd v (by decide +kernel)), List.forall_mem_cons.mpr ⟨(fun _ g => xin_at 741 rfl g), List.forall_mem_cons.mpr ⟨(fun _ g => xin_at 740 rfl g), List.forall_mem_cons.mpr ⟨(fun _ g => xin_at 739 rfl g), fun _ h => absurd h List.not_mem_nil⟩⟩⟩⟩⟩⟩⟩⟩⟩⟩⟩⟩⟩⟩⟩
theorem xb_50 : (Bundle.ownAtoms "TaskTrees" 133 (xen 50) xnm2).all (fun w => !(vx_no w) || (goodWord w || decide (w ∈ xB))) = true := by decide +kernel
theorem xo_50 : (Cond.classLink "TaskTrees" 129 (xen 50) :: Cond.initialized (xen 50) :: vx_atS "TaskTrees" 133 (xen 50) xnm2).all vx_ot = true := by decide +kernel
set_option maxRecDepth 20000 in
theorem xk_50 : Cond.classLink "TaskTrees" 129 (xen 50) ∈ xTs := xin_at 720 rfl rfl
set_option maxRecDepth 20000 in
theorem xi_50 : Cond.initialized (xen 50) ∈ xTs := xin_at 70 rfl rfl
set_option maxRecDepth 20000 in
theorem xg_51 : ∀ w ∈ Bundle.ownAtoms "TaskTrees" 197 (xen 51) xnm2, vx_no w = true → goodWord w = true → w ∈ xTs :=
  List.forall_mem_append.mpr ⟨List.forall_mem_append.mpr ⟨List.forall_mem_append.mpr ⟨List.forall_mem_cons.mpr ⟨(fun _ g => xin_at 67 rfl g), List.forall_mem_cons.mpr ⟨(fun _ g => xin_at 742 rfl g), List.forall_mem_cons.mpr ⟨(fun _ g => xin_at 751 rfl g), List.forall_mem_cons.mpr ⟨(fun _ g => xin_at 754 rfl g), List.forall_mem_cons.mpr ⟨(fun _ g => xin_at 757 rfl g), List.forall_mem_cons.mpr ⟨(fun _ g => xin_at 759 rfl g), List.forall_mem_cons.mpr ⟨(fun _ g => xin_at 743 rfl g), List.forall_mem_cons.mpr ⟨(fun _ g => xin_at 744 rfl g), List.forall_mem_cons.mpr ⟨(fun _ g => xin_at 78 rfl g), List.forall_mem_cons.mpr ⟨(fun _ g => xin_at 79 rfl g), List.forall_mem_cons.mpr ⟨(fun _ g => xin_at 745 rfl g), List.forall_mem_cons.mpr ⟨(fun _ g => xin_at 750 rfl g), List.forall_mem_cons.mpr ⟨(fun _ g => xin_at 755 rfl g), List.forall_mem_cons.mpr ⟨(fun _ g => xin_at 775 rfl g), List.forall_mem_cons.mpr ⟨(fun _ g => xin_at 732 rfl g), List.forall_mem_cons.mpr ⟨(fun _ g => xin_at 776 rfl g), List.forall_mem_cons.mpr ⟨(fun _ g => xin_at 734 rfl g), List.forall_mem_cons.mpr ⟨(fun _ g => xin_at 777 rfl g), List.forall_mem_cons.mpr ⟨(fun _ g => xin_at 736 rfl g), List.forall_mem_cons.mpr ⟨(fun _ g => xin_at 746 rfl g), List.forall_mem_cons.mpr ⟨(fun v _ => absurd v (by decide +kernel)), List.forall_mem_cons.mpr ⟨(fun _ g => xin_at 748 rfl g), List.forall_mem_cons.mpr ⟨(fun v _ => absurd v (by decide +kernel)), List.forall_mem_cons.mpr ⟨(fun _ g => xin_at 738 rfl g), fun _ h => absurd h List.not_mem_nil⟩⟩⟩⟩⟩⟩⟩⟩⟩⟩⟩⟩⟩⟩⟩⟩⟩⟩⟩⟩⟩⟩⟩⟩, List.forall_mem_cons.mpr ⟨(fun _ g => xin_at 771 rfl g), List.forall_mem_cons.mpr ⟨(fun _ g => xin_at 772 rfl g), List.forall_mem_cons.mpr ⟨(fun _ g => xin_at 774 rfl g), List.forall_mem_cons.mpr ⟨(fun _ g => xin_at 738 rfl g), fun _ h => absurd h List.not_mem_nil⟩⟩⟩⟩⟩, List.forall_mem_append.mpr ⟨List.forall_mem_cons.mpr ⟨(fun _ g => xin_at 846 rfl g), List.forall_mem_cons.mpr ⟨(fun _ g => xin_at 847 rfl g), List.forall_mem_cons.mpr ⟨(fun _ g => xin_at 848 rfl g), List.forall_mem_cons.mpr ⟨(fun _ g => xin_at 765 rfl g), List.forall_mem_cons.mpr ⟨(fun _ g => xin_at 724 rfl g), fun _ h => absurd h List.not_mem_nil⟩⟩⟩⟩⟩, List.forall_mem_append.mpr ⟨List.forall_mem_cons.mpr ⟨(fun _ g => xin_at 765 rfl g), List.forall_mem_cons.mpr ⟨(fun _ g => xin_at 766 rfl g), List.forall_mem_cons.mpr ⟨(fun _ g => xin_at 767 rfl g), List.forall_mem_cons.mpr ⟨(fun _ g => xin_at 768 rfl g), List.forall_mem_cons.mpr ⟨(fun _ g => xin_at 726 rfl g), fun _ h => absurd h List.not_mem_nil⟩⟩⟩⟩⟩, List.forall_mem_cons.mpr ⟨(fun _ g => xin_at 768 rfl g), List.forall_mem_cons.mpr ⟨(fun _ g => xin_at 769 rfl g), List.forall_mem_cons.mpr ⟨(fun _ g => xin_at 770 rfl g), List.forall_mem_cons.mpr ⟨(fun _ g => xin_at 771 rfl g), List.forall_mem_cons.mpr ⟨(fun _ g => xin_at 728 rfl g), fun _ h => absurd h List.not_mem_nil⟩⟩⟩⟩⟩⟩⟩⟩, List.forall_mem_cons.mpr ⟨(fun _ g => xin_at 845 rfl g), List.forall_mem_cons.mpr ⟨(fun _ g => xin_at 836 rfl g), List.forall_mem_cons.mpr ⟨(fun _ g => xin_at 837 rfl g), List.forall_mem_cons.mpr ⟨(fun _ g => xin_at 838 rfl g), List.forall_mem_cons.mpr ⟨(fun _ g => xin_at 753 rfl g), List.forall_mem_cons.mpr ⟨(fun _ g => xin_at 839 rfl g), List.forall_mem_cons.mpr ⟨(fun _ g => xin_at 840 rfl g), List.forall_mem_cons.mpr ⟨(fun _ g => xin_at 841 rfl g), List.forall_mem_cons.mpr ⟨(fun _ g => xin_at 842 rfl g), List.forall_mem_cons.mpr ⟨(fun v _ => absurd v (by decide +kernel)), List.forall_mem_cons.mpr ⟨(fun v _ => absurd v (by decide +kernel)), List.forall_mem_cons.mpr ⟨(fun _ g => xin_at 741 rfl g), List.forall_mem_cons.mpr ⟨(fun _ g => xin_at 740 rfl g), List.forall_mem_cons.mpr ⟨(fun _ g => xin_at 843 rfl g), fun _ h => absurd h List.not_mem_nil⟩⟩⟩⟩⟩⟩⟩⟩⟩⟩⟩⟩⟩⟩⟩
theorem xb_51 : (Bundle.ownAtoms "TaskTrees" 197 (xen 51) xnm2).all (fun w => !(vx_no w) || (goodWord w || decide (w ∈ xB))) = true := by decide +kernel
theorem xo_51 : (Cond.classLink "TaskTrees" 193 (xen 51) :: Cond.initialized (xen 51) :: vx_atS "TaskTrees" 197 (xen 51) xnm2).all vx_ot = true := by decide +kernel
set_option maxRecDepth 20000 in
theorem xk_51 : Cond.classLink "TaskTrees" 193 (xen 51) ∈ xTs := xin_at 835 rfl rfl
set_option maxRecDepth 20000 in
theorem xi_51 : Cond.initialized (xen 51) ∈ xTs := xin_at 71 rfl rfl
