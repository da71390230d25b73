section
-- ===== PART A: goes FIRST, ahead of the names: the tables' words, and 'selects' of the private methods out of them =====
/-- a private method of a class that the tables say can be made, by its rows of tables_1 -/
def lw_okq (q : MethodName × Nat) : Prop := (q.1.cls ≠ "java/lang/invoke/MethodHandle" ∧ q.1.cls ≠ "java/lang/invoke/VarHandle") ∧ Cond.instantiable q.1.cls q.2 ∈ tables_1 ∧ Cond.privateMethod q.1 ∈ tables_1 ∧ Cond.instanceMethod q.1 ∈ tables_1
theorem lw_p0 : lw_okq (⟨"CubeWorlds$World", "fillTable", "()V"⟩, 4) := ⟨⟨by decide +kernel, by decide +kernel⟩, List.mem_of_getElem? (i := 19) (by decide +kernel), List.mem_of_getElem? (i := 32) (by decide +kernel), List.mem_of_getElem? (i := 33) (by decide +kernel)⟩
theorem lw_p1 : lw_okq (⟨"CubeWorlds$World", "sumOfCells", "(II)I"⟩, 4) := ⟨⟨by decide +kernel, by decide +kernel⟩, List.mem_of_getElem? (i := 19) (by decide +kernel), List.mem_of_getElem? (i := 39) (by decide +kernel), List.mem_of_getElem? (i := 40) (by decide +kernel)⟩
theorem lw_p2 : lw_okq (⟨"CubeWorlds", "worldIn", "(I)LCubeWorlds$World;"⟩, 7) := ⟨⟨by decide +kernel, by decide +kernel⟩, List.mem_of_getElem? (i := 8) (by decide +kernel), List.mem_of_getElem? (i := 87) (by decide +kernel), List.mem_of_getElem? (i := 88) (by decide +kernel)⟩
theorem lw_p3 : lw_okq (⟨"CubeWorlds$World", "isUnit", "(I)Z"⟩, 4) := ⟨⟨by decide +kernel, by decide +kernel⟩, List.mem_of_getElem? (i := 19) (by decide +kernel), List.mem_of_getElem? (i := 168) (by decide +kernel), List.mem_of_getElem? (i := 169) (by decide +kernel)⟩
theorem lw_p4 : lw_okq (⟨"CubeWorlds$World", "commutes", "(I)Z"⟩, 4) := ⟨⟨by decide +kernel, by decide +kernel⟩, List.mem_of_getElem? (i := 19) (by decide +kernel), List.mem_of_getElem? (i := 209) (by decide +kernel), List.mem_of_getElem? (i := 210) (by decide +kernel)⟩
theorem lw_p5 : lw_okq (⟨"CubeWorlds$World", "associates", "(II)Z"⟩, 4) := ⟨⟨by decide +kernel, by decide +kernel⟩, List.mem_of_getElem? (i := 19) (by decide +kernel), List.mem_of_getElem? (i := 213) (by decide +kernel), List.mem_of_getElem? (i := 214) (by decide +kernel)⟩
theorem lw_p6 : lw_okq (⟨"CubeWorlds$World", "associatesWith", "(IIII)Z"⟩, 4) := ⟨⟨by decide +kernel, by decide +kernel⟩, List.mem_of_getElem? (i := 19) (by decide +kernel), List.mem_of_getElem? (i := 217) (by decide +kernel), List.mem_of_getElem? (i := 218) (by decide +kernel)⟩
theorem lw_p7 : lw_okq (⟨"CubeWorlds$World", "isOneProduct", "(III)Z"⟩, 4) := ⟨⟨by decide +kernel, by decide +kernel⟩, List.mem_of_getElem? (i := 19) (by decide +kernel), List.mem_of_getElem? (i := 221) (by decide +kernel), List.mem_of_getElem? (i := 222) (by decide +kernel)⟩
theorem lw_p8 : lw_okq (⟨"CubeWorlds", "mapAt", "(I)[I"⟩, 7) := ⟨⟨by decide +kernel, by decide +kernel⟩, List.mem_of_getElem? (i := 8) (by decide +kernel), List.mem_of_getElem? (i := 241) (by decide +kernel), List.mem_of_getElem? (i := 242) (by decide +kernel)⟩
theorem lw_p9 : lw_okq (⟨"CubeWorlds", "allMapsFit", "(I)Z"⟩, 7) := ⟨⟨by decide +kernel, by decide +kernel⟩, List.mem_of_getElem? (i := 8) (by decide +kernel), List.mem_of_getElem? (i := 266) (by decide +kernel), List.mem_of_getElem? (i := 267) (by decide +kernel)⟩
theorem lw_p10 : lw_okq (⟨"CubeWorlds", "mapsCarry", "(LCubeWorlds$World;LCubeWorlds$World;)Z"⟩, 7) := ⟨⟨by decide +kernel, by decide +kernel⟩, List.mem_of_getElem? (i := 8) (by decide +kernel), List.mem_of_getElem? (i := 270) (by decide +kernel), List.mem_of_getElem? (i := 271) (by decide +kernel)⟩
theorem lw_p11 : lw_okq (⟨"CubeWorlds", "countWays", "(LCubeWorlds$World;LCubeWorlds$World;)I"⟩, 7) := ⟨⟨by decide +kernel, by decide +kernel⟩, List.mem_of_getElem? (i := 8) (by decide +kernel), List.mem_of_getElem? (i := 285) (by decide +kernel), List.mem_of_getElem? (i := 286) (by decide +kernel)⟩
theorem lw_p12 : lw_okq (⟨"CubeWorlds", "leavesWay", "(LCubeWorlds$World;LCubeWorlds$World;I)Z"⟩, 7) := ⟨⟨by decide +kernel, by decide +kernel⟩, List.mem_of_getElem? (i := 8) (by decide +kernel), List.mem_of_getElem? (i := 292) (by decide +kernel), List.mem_of_getElem? (i := 293) (by decide +kernel)⟩
theorem lw_p13 : lw_okq (⟨"CubeWorlds", "agrees", "(LCubeWorlds$World;LCubeWorlds$World;II)Z"⟩, 7) := ⟨⟨by decide +kernel, by decide +kernel⟩, List.mem_of_getElem? (i := 8) (by decide +kernel), List.mem_of_getElem? (i := 296) (by decide +kernel), List.mem_of_getElem? (i := 297) (by decide +kernel)⟩
theorem lw_p14 : lw_okq (⟨"CubeWorlds", "readCells", "(II)V"⟩, 7) := ⟨⟨by decide +kernel, by decide +kernel⟩, List.mem_of_getElem? (i := 8) (by decide +kernel), List.mem_of_getElem? (i := 376) (by decide +kernel), List.mem_of_getElem? (i := 377) (by decide +kernel)⟩
theorem lw_p15 : lw_okq (⟨"CubeWorldsModel", "clear", "(II)V"⟩, 7) := ⟨⟨by decide +kernel, by decide +kernel⟩, List.mem_of_getElem? (i := 380) (by decide +kernel), List.mem_of_getElem? (i := 418) (by decide +kernel), List.mem_of_getElem? (i := 419) (by decide +kernel)⟩
def lw_privs_1 : List (MethodName × Nat) := [(⟨"CubeWorlds$World", "fillTable", "()V"⟩, 4), (⟨"CubeWorlds$World", "sumOfCells", "(II)I"⟩, 4), (⟨"CubeWorlds", "worldIn", "(I)LCubeWorlds$World;"⟩, 7), (⟨"CubeWorlds$World", "isUnit", "(I)Z"⟩, 4), (⟨"CubeWorlds$World", "commutes", "(I)Z"⟩, 4), (⟨"CubeWorlds$World", "associates", "(II)Z"⟩, 4), (⟨"CubeWorlds$World", "associatesWith", "(IIII)Z"⟩, 4), (⟨"CubeWorlds$World", "isOneProduct", "(III)Z"⟩, 4), (⟨"CubeWorlds", "mapAt", "(I)[I"⟩, 7), (⟨"CubeWorlds", "allMapsFit", "(I)Z"⟩, 7), (⟨"CubeWorlds", "mapsCarry", "(LCubeWorlds$World;LCubeWorlds$World;)Z"⟩, 7), (⟨"CubeWorlds", "countWays", "(LCubeWorlds$World;LCubeWorlds$World;)I"⟩, 7), (⟨"CubeWorlds", "leavesWay", "(LCubeWorlds$World;LCubeWorlds$World;I)Z"⟩, 7), (⟨"CubeWorlds", "agrees", "(LCubeWorlds$World;LCubeWorlds$World;II)Z"⟩, 7), (⟨"CubeWorlds", "readCells", "(II)V"⟩, 7), (⟨"CubeWorldsModel", "clear", "(II)V"⟩, 7)]
theorem lw_r1 : ∀ q ∈ lw_privs_1, lw_okq q := List.forall_mem_cons.mpr ⟨lw_p0, List.forall_mem_cons.mpr ⟨lw_p1, List.forall_mem_cons.mpr ⟨lw_p2, List.forall_mem_cons.mpr ⟨lw_p3, List.forall_mem_cons.mpr ⟨lw_p4, List.forall_mem_cons.mpr ⟨lw_p5, List.forall_mem_cons.mpr ⟨lw_p6, List.forall_mem_cons.mpr ⟨lw_p7, List.forall_mem_cons.mpr ⟨lw_p8, List.forall_mem_cons.mpr ⟨lw_p9, List.forall_mem_cons.mpr ⟨lw_p10, List.forall_mem_cons.mpr ⟨lw_p11, List.forall_mem_cons.mpr ⟨lw_p12, List.forall_mem_cons.mpr ⟨lw_p13, List.forall_mem_cons.mpr ⟨lw_p14, List.forall_mem_cons.mpr ⟨lw_p15, fun _ h => absurd h List.not_mem_nil⟩⟩⟩⟩⟩⟩⟩⟩⟩⟩⟩⟩⟩⟩⟩⟩
theorem lw_p16 : lw_okq (⟨"CubeWorldsModel", "isNumber", "(II)Z"⟩, 7) := ⟨⟨by decide +kernel, by decide +kernel⟩, List.mem_of_getElem? (i := 380) (by decide +kernel), List.mem_of_getElem? (i := 426) (by decide +kernel), List.mem_of_getElem? (i := 427) (by decide +kernel)⟩
theorem lw_p17 : lw_okq (⟨"CubeWorldsModel", "numbers", "(I)I"⟩, 7) := ⟨⟨by decide +kernel, by decide +kernel⟩, List.mem_of_getElem? (i := 380) (by decide +kernel), List.mem_of_getElem? (i := 430) (by decide +kernel), List.mem_of_getElem? (i := 431) (by decide +kernel)⟩
theorem lw_p18 : lw_okq (⟨"CubeWorldsModel", "times", "(III)I"⟩, 7) := ⟨⟨by decide +kernel, by decide +kernel⟩, List.mem_of_getElem? (i := 380) (by decide +kernel), List.mem_of_getElem? (i := 442) (by decide +kernel), List.mem_of_getElem? (i := 443) (by decide +kernel)⟩
theorem lw_p19 : lw_okq (⟨"CubeWorldsModel", "firstBroken", "(I)I"⟩, 7) := ⟨⟨by decide +kernel, by decide +kernel⟩, List.mem_of_getElem? (i := 380) (by decide +kernel), List.mem_of_getElem? (i := 450) (by decide +kernel), List.mem_of_getElem? (i := 451) (by decide +kernel)⟩
theorem lw_p20 : lw_okq (⟨"CubeWorldsModel", "turned", "(IIIII)I"⟩, 7) := ⟨⟨by decide +kernel, by decide +kernel⟩, List.mem_of_getElem? (i := 380) (by decide +kernel), List.mem_of_getElem? (i := 470) (by decide +kernel), List.mem_of_getElem? (i := 471) (by decide +kernel)⟩
theorem lw_p21 : lw_okq (⟨"CubeWorldsModel", "bit", "(IIII)I"⟩, 7) := ⟨⟨by decide +kernel, by decide +kernel⟩, List.mem_of_getElem? (i := 380) (by decide +kernel), List.mem_of_getElem? (i := 474) (by decide +kernel), List.mem_of_getElem? (i := 475) (by decide +kernel)⟩
theorem lw_p22 : lw_okq (⟨"CubeWorldsModel", "copy", "(II)V"⟩, 7) := ⟨⟨by decide +kernel, by decide +kernel⟩, List.mem_of_getElem? (i := 380) (by decide +kernel), List.mem_of_getElem? (i := 478) (by decide +kernel), List.mem_of_getElem? (i := 479) (by decide +kernel)⟩
theorem lw_p23 : lw_okq (⟨"CubeWorldsModel", "joinsAll", "(III)Z"⟩, 7) := ⟨⟨by decide +kernel, by decide +kernel⟩, List.mem_of_getElem? (i := 380) (by decide +kernel), List.mem_of_getElem? (i := 486) (by decide +kernel), List.mem_of_getElem? (i := 487) (by decide +kernel)⟩
theorem lw_p24 : lw_okq (⟨"CubeWorldsModel", "joinsTwo", "(IIIII)Z"⟩, 7) := ⟨⟨by decide +kernel, by decide +kernel⟩, List.mem_of_getElem? (i := 380) (by decide +kernel), List.mem_of_getElem? (i := 490) (by decide +kernel), List.mem_of_getElem? (i := 491) (by decide +kernel)⟩
theorem lw_p25 : lw_okq (⟨"CubeWorldsModel", "image", "(II)I"⟩, 7) := ⟨⟨by decide +kernel, by decide +kernel⟩, List.mem_of_getElem? (i := 380) (by decide +kernel), List.mem_of_getElem? (i := 513) (by decide +kernel), List.mem_of_getElem? (i := 514) (by decide +kernel)⟩
theorem lw_p26 : lw_okq (⟨"CubeWorldsModel", "isFit", "(II)Z"⟩, 7) := ⟨⟨by decide +kernel, by decide +kernel⟩, List.mem_of_getElem? (i := 380) (by decide +kernel), List.mem_of_getElem? (i := 521) (by decide +kernel), List.mem_of_getElem? (i := 522) (by decide +kernel)⟩
theorem lw_p27 : lw_okq (⟨"CubeWorldsModel", "back", "(II)I"⟩, 7) := ⟨⟨by decide +kernel, by decide +kernel⟩, List.mem_of_getElem? (i := 380) (by decide +kernel), List.mem_of_getElem? (i := 533) (by decide +kernel), List.mem_of_getElem? (i := 534) (by decide +kernel)⟩
theorem lw_p28 : lw_okq (⟨"CubeWorldsModel", "hasThird", "(I)Z"⟩, 7) := ⟨⟨by decide +kernel, by decide +kernel⟩, List.mem_of_getElem? (i := 380) (by decide +kernel), List.mem_of_getElem? (i := 544) (by decide +kernel), List.mem_of_getElem? (i := 545) (by decide +kernel)⟩
theorem lw_p29 : lw_okq (⟨"CubeWorldsModel", "isPlace", "(II)Z"⟩, 7) := ⟨⟨by decide +kernel, by decide +kernel⟩, List.mem_of_getElem? (i := 380) (by decide +kernel), List.mem_of_getElem? (i := 552) (by decide +kernel), List.mem_of_getElem? (i := 553) (by decide +kernel)⟩
theorem lw_p30 : lw_okq (⟨"CubeWorldsModel", "isOn", "(III)Z"⟩, 7) := ⟨⟨by decide +kernel, by decide +kernel⟩, List.mem_of_getElem? (i := 380) (by decide +kernel), List.mem_of_getElem? (i := 556) (by decide +kernel), List.mem_of_getElem? (i := 557) (by decide +kernel)⟩
theorem lw_p31 : lw_okq (⟨"CubeWorldsModel", "common", "(IIIZ)I"⟩, 7) := ⟨⟨by decide +kernel, by decide +kernel⟩, List.mem_of_getElem? (i := 380) (by decide +kernel), List.mem_of_getElem? (i := 564) (by decide +kernel), List.mem_of_getElem? (i := 565) (by decide +kernel)⟩
def lw_privs_2 : List (MethodName × Nat) := [(⟨"CubeWorldsModel", "isNumber", "(II)Z"⟩, 7), (⟨"CubeWorldsModel", "numbers", "(I)I"⟩, 7), (⟨"CubeWorldsModel", "times", "(III)I"⟩, 7), (⟨"CubeWorldsModel", "firstBroken", "(I)I"⟩, 7), (⟨"CubeWorldsModel", "turned", "(IIIII)I"⟩, 7), (⟨"CubeWorldsModel", "bit", "(IIII)I"⟩, 7), (⟨"CubeWorldsModel", "copy", "(II)V"⟩, 7), (⟨"CubeWorldsModel", "joinsAll", "(III)Z"⟩, 7), (⟨"CubeWorldsModel", "joinsTwo", "(IIIII)Z"⟩, 7), (⟨"CubeWorldsModel", "image", "(II)I"⟩, 7), (⟨"CubeWorldsModel", "isFit", "(II)Z"⟩, 7), (⟨"CubeWorldsModel", "back", "(II)I"⟩, 7), (⟨"CubeWorldsModel", "hasThird", "(I)Z"⟩, 7), (⟨"CubeWorldsModel", "isPlace", "(II)Z"⟩, 7), (⟨"CubeWorldsModel", "isOn", "(III)Z"⟩, 7), (⟨"CubeWorldsModel", "common", "(IIIZ)I"⟩, 7)]
theorem lw_r2 : ∀ q ∈ lw_privs_2, lw_okq q := List.forall_mem_cons.mpr ⟨lw_p16, List.forall_mem_cons.mpr ⟨lw_p17, List.forall_mem_cons.mpr ⟨lw_p18, List.forall_mem_cons.mpr ⟨lw_p19, List.forall_mem_cons.mpr ⟨lw_p20, List.forall_mem_cons.mpr ⟨lw_p21, List.forall_mem_cons.mpr ⟨lw_p22, List.forall_mem_cons.mpr ⟨lw_p23, List.forall_mem_cons.mpr ⟨lw_p24, List.forall_mem_cons.mpr ⟨lw_p25, List.forall_mem_cons.mpr ⟨lw_p26, List.forall_mem_cons.mpr ⟨lw_p27, List.forall_mem_cons.mpr ⟨lw_p28, List.forall_mem_cons.mpr ⟨lw_p29, List.forall_mem_cons.mpr ⟨lw_p30, List.forall_mem_cons.mpr ⟨lw_p31, fun _ h => absurd h List.not_mem_nil⟩⟩⟩⟩⟩⟩⟩⟩⟩⟩⟩⟩⟩⟩⟩⟩
theorem lw_p32 : lw_okq (⟨"CubeWorldsModel", "rankOf", "(II)I"⟩, 7) := ⟨⟨by decide +kernel, by decide +kernel⟩, List.mem_of_getElem? (i := 380) (by decide +kernel), List.mem_of_getElem? (i := 580) (by decide +kernel), List.mem_of_getElem? (i := 581) (by decide +kernel)⟩
def lw_privs_3 : List (MethodName × Nat) := [(⟨"CubeWorldsModel", "rankOf", "(II)I"⟩, 7)]
theorem lw_r3 : ∀ q ∈ lw_privs_3, lw_okq q := List.forall_mem_cons.mpr ⟨lw_p32, fun _ h => absurd h List.not_mem_nil⟩
def lw_privs : List (MethodName × Nat) := lw_privs_1 ++ (lw_privs_2 ++ (lw_privs_3))
def lw_tbl : List Cond := k2_sels lw_privs ++ tables_1
theorem lw_privs_ok : ∀ q ∈ lw_privs, lw_okq q := by
  show ∀ q ∈ lw_privs_1 ++ (lw_privs_2 ++ (lw_privs_3)), lw_okq q
  exact List.forall_mem_append.mpr ⟨lw_r1, List.forall_mem_append.mpr ⟨lw_r2, lw_r3⟩⟩
end
section
/-! ===== BEGIN words of one list among another's, by their places ===== -/
theorem goodIn_r {big : List Cond} (ws : List Cond) (ps : List Nat) (hp : ws = ps.filterMap (fun i => big[i]?)) (h : ws.all goodWord = true) : GoodIn big ws := by
  intro w hw
  have h1 := List.all_eq_true.mp h w hw
  rw [hp] at hw
  obtain ⟨i, -, hi⟩ := List.mem_filterMap.mp hw
  have hm : w ∈ big := by first | exact List.mem_of_getElem? hi | exact List.getElem?_mem hi
  exact ⟨hm, good_of_word h1⟩
theorem goodIn_app {big a b : List Cond} (ha : GoodIn big a) (hb : GoodIn big b) : GoodIn big (a ++ b) := fun w h => (List.mem_append.mp h).elim (ha w) (hb w)
theorem goodIn_ca {big a b : List Cond} {c : Cond} (ha : GoodIn big (c :: a)) (hb : GoodIn big b) : GoodIn big (c :: (a ++ b)) := fun w h => (List.mem_cons.mp h).elim (fun e => ha w (List.mem_cons.mpr (Or.inl e))) (fun h => (List.mem_append.mp h).elim (fun h => ha w (List.mem_cons.mpr (Or.inr h))) (hb w))
theorem goodIn_sub {big ws : List Cond} (hm : ∀ w ∈ ws, w ∈ big) (h : ws.all goodWord = true) : GoodIn big ws := fun w hw => ⟨hm w hw, good_of_word (List.all_eq_true.mp h w hw)⟩
/-! ===== END ===== -/

/-! ===== BEGIN new T[n][m]: the outer array a place, the inner ones among the pooled ===== -/
/-- f, but v at every address of l -/
def vr_up {α : Type} (f : Nat → α) (l : List Nat) (v : α) : Nat → α := fun a => if a ∈ l then v else f a
theorem vr_up_in {α : Type} {f : Nat → α} {l : List Nat} {v : α} {a : Nat} (h : a ∈ l) : vr_up f l v a = v := if_pos h
theorem vr_up_ne {α : Type} {f : Nat → α} {l : List Nat} {v : α} {a : Nat} (h : a ∉ l) : vr_up f l v a = f a := if_neg h
theorem vr_rows {L l : List Nat} {f : Nat → va_E} {e : va_E} (h : ∀ a, a ∈ l → a ∉ L) : va_pl L f ++ l.map (fun a => (a, e)) = va_pl (L ++ l) (vr_up f l e) := by
  unfold va_pl
  rw [List.map_append]
  congr 1
  · apply List.map_congr_left
    intro a ha
    rw [vr_up_ne (fun q => h a q ha)]
  · apply List.map_congr_left
    intro a ha
    rw [vr_up_in ha]
theorem vr_lay {X rows : va_W} {x : Nat × va_E} {pl : va_W} {D : va_G} {cl : List vw_C} {H : Heap} (hP : va_P D cl (((X ++ pl) ++ [x]) ++ rows) H) : va_P D cl ((X ++ [x]) ++ (pl ++ rows)) H := by
  rw [List.append_assoc (X ++ pl)] at hP
  have h := va_P.swap hP
  rw [← List.append_assoc X] at h
  have h2 := va_P.swap h
  rw [List.append_assoc (X ++ [x])] at h2
  exact h2
theorem vr_layD {X rows : va_W} {x : Nat × va_E} {pl : va_W} {A : Nat → Prop} (hD : va_D A (((X ++ pl) ++ [x]) ++ rows)) : va_D A ((X ++ [x]) ++ (pl ++ rows)) := by
  rw [List.append_assoc (X ++ pl)] at hD
  have h := va_D.swap hD
  rw [← List.append_assoc X] at h
  have h2 := va_D.swap h
  rw [List.append_assoc (X ++ [x])] at h2
  exact h2
theorem vr_outer (c : ClassId) (N h0 : Nat) : ∀ i : Nat, Jvm.Free.Multi.outerC c N h0 i = arrV c N (fun j => va_rf (if j < i then some (h0 + 1 + j) else none))
  | 0 => by
    show ({ cls := c, slots := Array.replicate N .null, vm := .none } : Cell) = _
    rw [arrV_new]
    refine congrArg (arrV c N) (funext fun j => ?_)
    simp [va_rf]
  | i + 1 => by
    show (Jvm.Free.Multi.outerC c N h0 i).setSlot i (.ref (h0 + 1 + i)) = _
    rw [vr_outer c N h0 i, arrV_store]
    refine congrArg (arrV c N) (funext fun j => ?_)
    by_cases e : j = i
    · subst e
      simp [updV, va_rf]
    · by_cases h : j < i
      · simp [updV, e, h, Nat.lt_succ_of_lt h]
      · simp [updV, e, h, show ¬ j < i + 1 by omega]
section VGM
variable {p : Program} {l : Launch} {e : Env} {R : Room} {s : State} {m : MethodId} {args : Array Value} {below : List Frame} {meth : Method} {c : Code} {H : Heap} {locs : List Loc} {cells slots : Nat} {Q : State → Prop}
variable {cc : ByteArray} {pc : Nat} {ls : Array Slot} {rest : List Value} {D : va_G} {cl : List vw_C} {A : Nat → Prop} {a : Nat} {tys : List (ClassId × FieldType)} {ws : va_W} {H0 : Heap}
/-- the printed names speak of these two, and no text has them -/
def va_AOA (ty : FieldType) (U : State) : Prop := (Cond.arrayOver (.array ty)).before #[] U = true
theorem va_AOA.use {ty : FieldType} {A : Array Value} {U : State} (h : va_AOA ty U) : (Cond.arrayOver (.array ty)).before A U = true := by
  first | exact h | (simpa [va_AOA, Cond.before, Cond.holds] using h)
theorem va_mna {X : va_W} {L : List Nat} {f : Nat → va_E} {cc : ByteArray} (hexec : p.tables.exec = Jvm.exec) (hb : c.code = cc) {own : String} {index : Nat} {ty : FieldType} {cy : ClassId} (hown : s.vm.findClass own = some m.cls) (hclink : (Cond.classLink own index ("[" ++ (FieldType.array ty).toString)).before args s = true) (hover : va_AOA ty s) (harr : (Cond.arrayClass ty).before args s = true) (hcy : s.vm.findClass (FieldType.array ty).toString = some cy)
    (hK : va_K D cl tys s) (hP : va_P D cl (X ++ va_pl L f) H) (hD : va_D A (X ++ va_pl L f)) (hS : va_S A H0 H locs) (hA : ∀ q, H0.size ≤ q → A q) {n k : Int32} {N' K' : Nat} {z : vp_A} (hn : ¬ n < 0) (hk : ¬ k < 0) (hN : n.toNatClampNeg = N') (hM : k.toNatClampNeg = K')
    (hb1 : N' * 4 ≤ 536870912) (hb2 : K' * componentBytes ty ≤ 536870912) (hb3 : K' ≤ 536870912) (hdf : fits ty (defaultValue ty) = true) (hdd : (defaultValue ty).isDefault = true) (hcells : cells + (1 + N') ≤ R.cells) (hslots : slots + (N' + N' * K') ≤ R.slots) (hz : ∀ c : ClassId, Jvm.Free.Multi.innerC c K' (defaultValue ty) = vp_cell c z) (hdg : decode cc pc = .ok (.multianewarray index 2, 4))
    (kk : ∀ (q : Nat) (r : Nat → Nat) (cA : ClassId) (H1 : Heap), (∀ i j : Nat, i < N' → j < N' → r i = r j → i = j) → (∀ i : Nat, i < N' → r i ∉ L) → va_K D cl (tys ++ [(cA, .array ty)]) s →
      va_P D cl ((X ++ [(q, .inl (cA, N', .inr (.inr (.inr (.inr (fun i => if i < N' then some (r i) else none))))))]) ++ va_pl (L ++ (List.range N').map r) (vr_up f ((List.range N').map r) (.inl (cy, z)))) H1 → va_D A ((X ++ [(q, .inl (cA, N', .inr (.inr (.inr (.inr (fun i => if i < N' then some (r i) else none))))))]) ++ va_pl (L ++ (List.range N').map r) (vr_up f ((List.range N').map r) (.inl (cy, z)))) → va_S A H0 H1 locs →
      W p l e R s m args below meth c H1 locs (cells + 1 + N') (slots + N' + N' * K') Q (F0 m (pc + 4) ls (.ref q :: rest))) : W p l e R s m args below meth c H locs cells slots Q (F0 m pc ls (.int k :: .int n :: rest)) := by
  subst hN
  subst hM
  intro T hT Xs
  obtain ⟨vm₁, cA, comp, -, fA, fC, hO, -, X', step⟩ := Xs.multianewarray2F hexec hown hclink (va_AOA.use hover) harr (g := F0 m pc ls (.int k :: .int n :: rest)) rfl (by rw [hb]; exact hdg) rfl hn hk hb1 hb2 hb3 hdf hdd hcells hslots
  have ec : some cy = some comp := hcy.symm.trans fC
  cases ec
  generalize hF : Jvm.Free.Multi.fill (T.setVm vm₁) cA cy n.toNatClampNeg k.toNatClampNeg (defaultValue ty) n.toNatClampNeg = F at X' step
  have hTh : (T.setVm vm₁).heap = H := hT
  obtain ⟨f1, f2, -, -⟩ := Jvm.Free.Multi.fill_facts (T.setVm vm₁) cA cy n.toNatClampNeg k.toNatClampNeg (defaultValue ty) n.toNatClampNeg
  rw [hF, hTh] at f1 f2
  have hold : ∀ x : Nat, x < H.size → F.heap[x]? = H[x]? := fun x hx => by
    have := Jvm.Free.Multi.fill_old (T.setVm vm₁) cA cy n.toNatClampNeg k.toNatClampNeg (defaultValue ty) (a := x) (by rw [hTh]; exact hx) n.toNatClampNeg
    rw [hF, hTh] at this
    exact this
  have hrow : ∀ j : Nat, j < n.toNatClampNeg → F.heap[H.size + 1 + j]? = some (vp_cell cy z) := fun j hj => by
    have := Jvm.Free.Multi.fill_inner (T.setVm vm₁) cA cy n.toNatClampNeg k.toNatClampNeg (defaultValue ty) n.toNatClampNeg j hj
    rw [hF, hTh, hz] at this
    exact this
  have hout : Jvm.Free.Multi.outerC cA n.toNatClampNeg H.size n.toNatClampNeg = vp_cell cA (n.toNatClampNeg, .inr (.inr (.inr (.inr (fun i => if i < n.toNatClampNeg then some (H.size + 1 + i) else none))))) := by
    rw [vp_cell_q]
    exact vr_outer cA n.toNatClampNeg H.size n.toNatClampNeg
  rw [hout] at f2
  have hlt : ∀ a, a ∈ L → a < H.size := fun a ha => by
    obtain ⟨k9, hk9⟩ := va_pl_get (X := X) (f := f) ha
    exact (hP k9 _ hk9).lt
  have hnl : ∀ i : Nat, i < n.toNatClampNeg → H.size + 1 + i ∉ L := fun i _ h => by
    have := hlt _ h
    omega
  have hnm : ∀ a, a ∈ (List.range n.toNatClampNeg).map (fun i => H.size + 1 + i) → a ∉ L := fun a ha h => by
    obtain ⟨i, -, rfl⟩ := List.mem_map.mp ha
    have := hlt _ h
    omega
  have hP0 : va_P D cl (X ++ va_pl L f) F.heap := hP.kept (fun k9 x hx => hold x.1 ((hP k9 x hx).lt))
  have hP1 : va_P D cl ((X ++ va_pl L f) ++ [(H.size, .inl (cA, n.toNatClampNeg, .inr (.inr (.inr (.inr (fun i => if i < n.toNatClampNeg then some (H.size + 1 + i) else none))))))]) F.heap := hP0.app (fun k9 x hx => by
    have h0 : k9 < 1 := (List.getElem?_eq_some_iff.mp hx).1
    rw [show k9 = 0 by omega] at hx
    cases hx
    exact f2)
  have hP2 : va_P D cl (((X ++ va_pl L f) ++ [(H.size, .inl (cA, n.toNatClampNeg, .inr (.inr (.inr (.inr (fun i => if i < n.toNatClampNeg then some (H.size + 1 + i) else none))))))]) ++ ((List.range n.toNatClampNeg).map (fun i => H.size + 1 + i)).map (fun a => (a, .inl (cy, z)))) F.heap := hP1.app (fun k9 x hx => by
    obtain ⟨a, ha, rfl⟩ := List.mem_map.mp (List.mem_of_getElem? hx)
    obtain ⟨i, hi, rfl⟩ := List.mem_map.mp ha
    exact hrow i (List.mem_range.mp hi))
  have hD2 : va_D A (((X ++ va_pl L f) ++ [(H.size, .inl (cA, n.toNatClampNeg, .inr (.inr (.inr (.inr (fun i => if i < n.toNatClampNeg then some (H.size + 1 + i) else none))))))]) ++ ((List.range n.toNatClampNeg).map (fun i => H.size + 1 + i)).map (fun a => (a, .inl (cy, z)))) := by
    have hD1 := hD.push (e := .inl (cA, n.toNatClampNeg, .inr (.inr (.inr (.inr (fun i => if i < n.toNatClampNeg then some (H.size + 1 + i) else none)))))) hP rfl (hA _ hS.1)
    generalize hW1 : (X ++ va_pl L f) ++ [(H.size, .inl (cA, n.toNatClampNeg, .inr (.inr (.inr (.inr (fun i => if i < n.toNatClampNeg then some (H.size + 1 + i) else none))))))] = W1 at hD1 hP1 ⊢
    have hle : ∀ (k9 : Nat) (x : Nat × va_E), W1[k9]? = some x → x.1 ≤ H.size := fun k9 x hx => by
      rw [← hW1] at hx
      by_cases hl : k9 < (X ++ va_pl L f).length
      · rw [List.getElem?_append_left hl] at hx
        exact Nat.le_of_lt ((hP k9 x hx).lt)
      · rw [List.getElem?_append_right (by omega)] at hx
        have h0 : k9 - (X ++ va_pl L f).length < 1 := (List.getElem?_eq_some_iff.mp hx).1
        rw [show k9 - (X ++ va_pl L f).length = 0 by omega] at hx
        cases hx
        exact Nat.le_refl _
    have hr : ∀ (k9 : Nat) (x : Nat × va_E), (((List.range n.toNatClampNeg).map (fun i => H.size + 1 + i)).map (fun a => ((a, .inl (cy, z)) : Nat × va_E)))[k9]? = some x → x.1 = H.size + 1 + k9 := fun k9 x hx => by
      rw [List.getElem?_map, List.getElem?_map] at hx
      by_cases h9 : k9 < n.toNatClampNeg
      · rw [List.getElem?_range h9] at hx
        cases hx
        rfl
      · have hn0 : (List.range n.toNatClampNeg)[k9]? = none := List.getElem?_eq_none (by rw [List.length_range]; omega)
        rw [hn0] at hx
        cases hx
    refine ⟨fun i j x y hi hj hxy => ?_, fun k9 x hx => ?_⟩
    · by_cases h1 : i < W1.length <;> by_cases h2 : j < W1.length
      · rw [List.getElem?_append_left h1] at hi
        rw [List.getElem?_append_left h2] at hj
        exact hD1.1 i j x y hi hj hxy
      · rw [List.getElem?_append_left h1] at hi
        rw [List.getElem?_append_right (by omega)] at hj
        have := hle _ _ hi
        have := hr _ _ hj
        omega
      · rw [List.getElem?_append_right (by omega)] at hi
        rw [List.getElem?_append_left h2] at hj
        have := hle _ _ hj
        have := hr _ _ hi
        omega
      · rw [List.getElem?_append_right (by omega)] at hi hj
        have := hr _ _ hi
        have := hr _ _ hj
        omega
    · by_cases h1 : k9 < W1.length
      · rw [List.getElem?_append_left h1] at hx
        exact hD1.2 k9 x hx
      · rw [List.getElem?_append_right (by omega)] at hx
        have := hr _ _ hx
        exact hA _ (by have := hS.1; omega)
  have hAr : ArrOfT s cA (.array ty) := fun N9 z9 => by
    obtain ⟨-, k9, hk9, cm9, hkk9⟩ := (hO 0 0 0).1
    exact ⟨(fun q hq => by cases hq), k9, hk9, cm9, hkk9⟩
  have hK2 : va_K D cl (tys ++ [(cA, .array ty)]) s := ⟨hK.1, fun k9 x hx => by
    by_cases hl : k9 < tys.length
    · rw [List.getElem?_append_left hl] at hx
      exact hK.2 k9 x hx
    · rw [List.getElem?_append_right (by omega)] at hx
      have h0 : k9 - tys.length < 1 := (List.getElem?_eq_some_iff.mp hx).1
      rw [show k9 - tys.length = 0 by omega] at hx
      cases hx
      exact ⟨hAr, fA⟩⟩
  obtain ⟨t, a1, b1⟩ := kk H.size (fun i => H.size + 1 + i) cA F.heap (fun i j _ _ h => by have h9 : H.size + 1 + i = H.size + 1 + j := h; omega) hnl hK2 (by rw [← vr_rows hnm]; exact vr_lay hP2) (by rw [← vr_rows hnm]; exact vr_layD hD2) ⟨by rw [f1]; have := hS.1; omega, fun x h1 h2 => (hold x (Nat.lt_of_lt_of_le h1 hS.1)).trans (hS.2.1 x h1 h2), hS.2.2⟩ F rfl X'
  refine ⟨t, step t ?_, b1⟩
  have e : T.heap.size = H.size := by rw [hT]
  rw [e]
  exact a1
end VGM
/-! ===== END ===== -/

/-! ===== BEGIN printed: names, fields, word lists, decode rows ===== -/
def RX0 : String := "CubeWorlds$Plane"
def TX0 : u_T := fun k => match k with
  | _ => ("", "", "", false)
def tyX0 : Nat → FieldType := fun k => match k with
  | _ => .int
abbrev wsX00 : List Cond := u_ws RX0 TX0 0
theorem nmX0 : ∀ a, a < 0 → ∀ b, b < 0 → a ≠ b → (TX0 a).2.1 ≠ (TX0 b).2.1 := by decide +kernel
theorem tyX0_ok : ∀ k, k < 0 → parseFieldDescriptor (TX0 k).2.2.1 = some (tyX0 k) := by decide +kernel
abbrev cX0_has : ByteArray := prog_2_method_2_code
def yX0_has : MethodName := ⟨RX0, "has", "(LCubeWorlds$World;I)Z"⟩
abbrev cX0_insideOf : ByteArray := prog_2_method_3_code
def yX0_insideOf : MethodName := ⟨RX0, "insideOf", "(LCubeWorlds$World;)I"⟩
abbrev cX0_lastOf : ByteArray := prog_2_method_4_code
def yX0_lastOf : MethodName := ⟨RX0, "lastOf", "(LCubeWorlds$World;)I"⟩
abbrev cX0_highPart : ByteArray := prog_2_method_5_code
def yX0_highPart : MethodName := ⟨RX0, "highPart", "(LCubeWorlds$World;I)I"⟩
abbrev cX0_lowPart : ByteArray := prog_2_method_6_code
def yX0_lowPart : MethodName := ⟨RX0, "lowPart", "(LCubeWorlds$World;I)I"⟩
abbrev cX0_lies : ByteArray := prog_2_method_7_code
def yX0_lies : MethodName := ⟨RX0, "lies", "(LCubeWorlds$World;II)Z"⟩
abbrev cX0_lineThrough : ByteArray := prog_2_method_8_code
def yX0_lineThrough : MethodName := ⟨RX0, "lineThrough", "(LCubeWorlds$World;II)I"⟩
abbrev cX0_pointOfBoth : ByteArray := prog_2_method_9_code
def yX0_pointOfBoth : MethodName := ⟨RX0, "pointOfBoth", "(LCubeWorlds$World;II)I"⟩
abbrev cX0_countBadPairs : ByteArray := prog_2_method_10_code
def yX0_countBadPairs : MethodName := ⟨RX0, "countBadPairs", "(LCubeWorlds$World;)I"⟩
def RX1 : String := "CubeWorlds$World"
def TX1 : u_T := fun k => match k with
  | 0 => ("CubeWorlds$World", "bits", "I", false)
  | 1 => ("CubeWorlds$World", "size", "I", false)
  | 2 => ("CubeWorlds$World", "cube", "[I", true)
  | _ => ("CubeWorlds$World", "table", "[I", true)
def tyX1 : Nat → FieldType := fun k => match k with
  | 0 => .int
  | 1 => .int
  | 2 => .array .int
  | _ => .array .int
abbrev wsX10 : List Cond := u_ws RX1 TX1 4
theorem nmX1 : ∀ a, a < 4 → ∀ b, b < 4 → a ≠ b → (TX1 a).2.1 ≠ (TX1 b).2.1 := by decide +kernel
theorem tyX1_ok : ∀ k, k < 4 → parseFieldDescriptor (TX1 k).2.2.1 = some (tyX1 k) := by decide +kernel
abbrev cX1_init : ByteArray := prog_3_method_1_code
def yX1_init : MethodName := ⟨RX1, "<init>", "()V"⟩
abbrev cX1_bits : ByteArray := prog_3_method_2_code
def yX1_bits : MethodName := ⟨RX1, "bits", "()I"⟩
abbrev cX1_size : ByteArray := prog_3_method_3_code
def yX1_size : MethodName := ⟨RX1, "size", "()I"⟩
abbrev cX1_has : ByteArray := prog_3_method_4_code
def yX1_has : MethodName := ⟨RX1, "has", "(I)Z"⟩
abbrev cX1_hasBit : ByteArray := prog_3_method_5_code
def yX1_hasBit : MethodName := ⟨RX1, "hasBit", "(I)Z"⟩
abbrev cX1_cell : ByteArray := prog_3_method_6_code
def yX1_cell : MethodName := ⟨RX1, "cell", "(II)I"⟩
abbrev cX1_cubeBit : ByteArray := prog_3_method_7_code
def yX1_cubeBit : MethodName := ⟨RX1, "cubeBit", "(III)I"⟩
abbrev cX1_changeCell : ByteArray := prog_3_method_8_code
def yX1_changeCell : MethodName := ⟨RX1, "changeCell", "(III)V"⟩
abbrev cX1_take : ByteArray := prog_3_method_9_code
def yX1_take : MethodName := ⟨RX1, "take", "(I[I)V"⟩
abbrev cX1_fillTable : ByteArray := prog_3_method_10_code
def yX1_fillTable : MethodName := ⟨RX1, "fillTable", "()V"⟩
abbrev cX1_sumOfCells : ByteArray := prog_3_method_11_code
def yX1_sumOfCells : MethodName := ⟨RX1, "sumOfCells", "(II)I"⟩
abbrev cX1_tableIndex : ByteArray := prog_3_method_12_code
def yX1_tableIndex : MethodName := ⟨RX1, "tableIndex", "(II)I"⟩
abbrev cX1_times : ByteArray := prog_3_method_13_code
def yX1_times : MethodName := ⟨RX1, "times", "(II)I"⟩
abbrev cX1_isWhole : ByteArray := prog_3_method_14_code
def yX1_isWhole : MethodName := ⟨RX1, "isWhole", "()Z"⟩
abbrev cX1_leastBroken : ByteArray := prog_3_method_15_code
def yX1_leastBroken : MethodName := ⟨RX1, "leastBroken", "()I"⟩
abbrev cX1_leastPartner : ByteArray := prog_3_method_16_code
def yX1_leastPartner : MethodName := ⟨RX1, "leastPartner", "(I)I"⟩
abbrev cX1_unit : ByteArray := prog_3_method_17_code
def yX1_unit : MethodName := ⟨RX1, "unit", "()I"⟩
abbrev cX1_isUnit : ByteArray := prog_3_method_18_code
def yX1_isUnit : MethodName := ⟨RX1, "isUnit", "(I)Z"⟩
abbrev cX1_solve : ByteArray := prog_3_method_19_code
def yX1_solve : MethodName := ⟨RX1, "solve", "(IIZ)I"⟩
abbrev cX1_joinsIn : ByteArray := prog_3_method_20_code
def yX1_joinsIn : MethodName := ⟨RX1, "joinsIn", "(II)Z"⟩
abbrev cX1_commutes : ByteArray := prog_3_method_21_code
def yX1_commutes : MethodName := ⟨RX1, "commutes", "(I)Z"⟩
abbrev cX1_associates : ByteArray := prog_3_method_22_code
def yX1_associates : MethodName := ⟨RX1, "associates", "(II)Z"⟩
abbrev cX1_associatesWith : ByteArray := prog_3_method_23_code
def yX1_associatesWith : MethodName := ⟨RX1, "associatesWith", "(IIII)Z"⟩
abbrev cX1_isOneProduct : ByteArray := prog_3_method_24_code
def yX1_isOneProduct : MethodName := ⟨RX1, "isOneProduct", "(III)Z"⟩
abbrev cX1_countUnlike : ByteArray := prog_3_method_25_code
def yX1_countUnlike : MethodName := ⟨RX1, "countUnlike", "()I"⟩
abbrev cX1_rankOf : ByteArray := prog_3_method_26_code
def yX1_rankOf : MethodName := ⟨RX1, "rankOf", "(I)I"⟩
def RX2 : String := "CubeWorlds"
def TX2 : u_T := fun k => match k with
  | 0 => ("CubeWorlds", "worlds", "[LCubeWorlds$World;", true)
  | 1 => ("CubeWorlds", "maps", "[[I", true)
  | 2 => ("CubeWorlds", "trial", "LCubeWorlds$World;", true)
  | 3 => ("CubeWorlds", "cells", "[I", true)
  | 4 => ("CubeWorlds", "tryA", "[I", true)
  | 5 => ("CubeWorlds", "tryC", "[I", true)
  | _ => ("CubeWorlds", "unwound", "[I", true)
def tyX2 : Nat → FieldType := fun k => match k with
  | 0 => .array (.object "CubeWorlds$World")
  | 1 => .array (.array .int)
  | 2 => .object "CubeWorlds$World"
  | 3 => .array .int
  | 4 => .array .int
  | 5 => .array .int
  | _ => .array .int
abbrev wsX20 : List Cond := u_ws RX2 TX2 7
theorem nmX2 : ∀ a, a < 7 → ∀ b, b < 7 → a ≠ b → (TX2 a).2.1 ≠ (TX2 b).2.1 := by decide +kernel
theorem tyX2_ok : ∀ k, k < 7 → parseFieldDescriptor (TX2 k).2.2.1 = some (tyX2 k) := by decide +kernel
abbrev cX2_init : ByteArray := prog_1_method_1_code
def yX2_init : MethodName := ⟨RX2, "<init>", "()V"⟩
abbrev cX2_world : ByteArray := prog_1_method_2_code
def yX2_world : MethodName := ⟨RX2, "world", "(II)I"⟩
abbrev cX2_put : ByteArray := prog_1_method_3_code
def yX2_put : MethodName := ⟨RX2, "put", "(IIII)I"⟩
abbrev cX2_field : ByteArray := prog_1_method_4_code
def yX2_field : MethodName := ⟨RX2, "field", "(II)I"⟩
abbrev cX2_product : ByteArray := prog_1_method_5_code
def yX2_product : MethodName := ⟨RX2, "product", "(III)I"⟩
abbrev cX2_divides : ByteArray := prog_1_method_6_code
def yX2_divides : MethodName := ⟨RX2, "divides", "(I)I"⟩
abbrev cX2_broken : ByteArray := prog_1_method_7_code
def yX2_broken : MethodName := ⟨RX2, "broken", "(IZ)I"⟩
abbrev cX2_one : ByteArray := prog_1_method_8_code
def yX2_one : MethodName := ⟨RX2, "one", "(I)I"⟩
abbrev cX2_quotient : ByteArray := prog_1_method_9_code
def yX2_quotient : MethodName := ⟨RX2, "quotient", "(IIIZ)I"⟩
abbrev cX2_turn : ByteArray := prog_1_method_10_code
def yX2_turn : MethodName := ⟨RX2, "turn", "(III)I"⟩
abbrev cX2_joins : ByteArray := prog_1_method_11_code
def yX2_joins : MethodName := ⟨RX2, "joins", "(III)I"⟩
abbrev cX2_many : ByteArray := prog_1_method_12_code
def yX2_many : MethodName := ⟨RX2, "many", "(II)I"⟩
abbrev cX2_unlike : ByteArray := prog_1_method_13_code
def yX2_unlike : MethodName := ⟨RX2, "unlike", "(I)I"⟩
abbrev cX2_map : ByteArray := prog_1_method_14_code
def yX2_map : MethodName := ⟨RX2, "map", "(III)I"⟩
abbrev cX2_gives : ByteArray := prog_1_method_15_code
def yX2_gives : MethodName := ⟨RX2, "gives", "(II)I"⟩
abbrev cX2_fits : ByteArray := prog_1_method_16_code
def yX2_fits : MethodName := ⟨RX2, "fits", "(II)I"⟩
abbrev cX2_alike : ByteArray := prog_1_method_17_code
def yX2_alike : MethodName := ⟨RX2, "alike", "(II)I"⟩
abbrev cX2_carry : ByteArray := prog_1_method_18_code
def yX2_carry : MethodName := ⟨RX2, "carry", "(II)I"⟩
abbrev cX2_ways : ByteArray := prog_1_method_19_code
def yX2_ways : MethodName := ⟨RX2, "ways", "(II)I"⟩
abbrev cX2_on : ByteArray := prog_1_method_20_code
def yX2_on : MethodName := ⟨RX2, "on", "(III)I"⟩
abbrev cX2_join : ByteArray := prog_1_method_21_code
def yX2_join : MethodName := ⟨RX2, "join", "(III)I"⟩
abbrev cX2_meet : ByteArray := prog_1_method_22_code
def yX2_meet : MethodName := ⟨RX2, "meet", "(III)I"⟩
abbrev cX2_bad : ByteArray := prog_1_method_23_code
def yX2_bad : MethodName := ⟨RX2, "bad", "(I)I"⟩
abbrev cX2_rank : ByteArray := prog_1_method_24_code
def yX2_rank : MethodName := ⟨RX2, "rank", "(II)I"⟩
abbrev cX2_ranks : ByteArray := prog_1_method_25_code
def yX2_ranks : MethodName := ⟨RX2, "ranks", "(II)I"⟩
abbrev cX2_cubes : ByteArray := prog_1_method_26_code
def yX2_cubes : MethodName := ⟨RX2, "cubes", "(I)I"⟩
abbrev cX2_worldIn : ByteArray := prog_1_method_27_code
def yX2_worldIn : MethodName := ⟨RX2, "worldIn", "(I)LCubeWorlds$World;"⟩
abbrev cX2_mapAt : ByteArray := prog_1_method_28_code
def yX2_mapAt : MethodName := ⟨RX2, "mapAt", "(I)[I"⟩
abbrev cX2_isSomeN : ByteArray := prog_1_method_29_code
def yX2_isSomeN : MethodName := ⟨RX2, "isSomeN", "(I)Z"⟩
abbrev cX2_isSomeWay : ByteArray := prog_1_method_30_code
def yX2_isSomeWay : MethodName := ⟨RX2, "isSomeWay", "(I)Z"⟩
abbrev cX2_isMapNumber : ByteArray := prog_1_method_31_code
def yX2_isMapNumber : MethodName := ⟨RX2, "isMapNumber", "(I)Z"⟩
abbrev cX2_oneIf : ByteArray := prog_1_method_32_code
def yX2_oneIf : MethodName := ⟨RX2, "oneIf", "(Z)I"⟩
abbrev cX2_cellIndex : ByteArray := prog_1_method_33_code
def yX2_cellIndex : MethodName := ⟨RX2, "cellIndex", "(II)I"⟩
abbrev cX2_reduced : ByteArray := prog_1_method_34_code
def yX2_reduced : MethodName := ⟨RX2, "reduced", "(II)I"⟩
abbrev cX2_turnedCell : ByteArray := prog_1_method_35_code
def yX2_turnedCell : MethodName := ⟨RX2, "turnedCell", "(LCubeWorlds$World;III)I"⟩
abbrev cX2_turnedBit : ByteArray := prog_1_method_36_code
def yX2_turnedBit : MethodName := ⟨RX2, "turnedBit", "(LCubeWorlds$World;IIII)I"⟩
abbrev cX2_readCells : ByteArray := prog_1_method_37_code
def yX2_readCells : MethodName := ⟨RX2, "readCells", "(II)V"⟩
abbrev cX2_sumOf : ByteArray := prog_1_method_38_code
def yX2_sumOf : MethodName := ⟨RX2, "sumOf", "([II)I"⟩
abbrev cX2_isFit : ByteArray := prog_1_method_39_code
def yX2_isFit : MethodName := ⟨RX2, "isFit", "([II)Z"⟩
abbrev cX2_allMapsFit : ByteArray := prog_1_method_40_code
def yX2_allMapsFit : MethodName := ⟨RX2, "allMapsFit", "(I)Z"⟩
abbrev cX2_sourceOf : ByteArray := prog_1_method_41_code
def yX2_sourceOf : MethodName := ⟨RX2, "sourceOf", "([III)I"⟩
abbrev cX2_mapsCarry : ByteArray := prog_1_method_42_code
def yX2_mapsCarry : MethodName := ⟨RX2, "mapsCarry", "(LCubeWorlds$World;LCubeWorlds$World;)Z"⟩
abbrev cX2_countWays : ByteArray := prog_1_method_43_code
def yX2_countWays : MethodName := ⟨RX2, "countWays", "(LCubeWorlds$World;LCubeWorlds$World;)I"⟩
abbrev cX2_readRow : ByteArray := prog_1_method_44_code
def yX2_readRow : MethodName := ⟨RX2, "readRow", "([III)V"⟩
abbrev cX2_leavesWay : ByteArray := prog_1_method_45_code
def yX2_leavesWay : MethodName := ⟨RX2, "leavesWay", "(LCubeWorlds$World;LCubeWorlds$World;I)Z"⟩
abbrev cX2_agrees : ByteArray := prog_1_method_46_code
def yX2_agrees : MethodName := ⟨RX2, "agrees", "(LCubeWorlds$World;LCubeWorlds$World;II)Z"⟩
def RX3 : String := "CubeWorldsModel"
def TX3 : u_T := fun k => match k with
  | 0 => ("CubeWorldsModel", "size", "[I", true)
  | 1 => ("CubeWorldsModel", "cube", "[I", true)
  | 2 => ("CubeWorldsModel", "maps", "[I", true)
  | 3 => ("CubeWorldsModel", "table", "[I", true)
  | 4 => ("CubeWorldsModel", "first", "[I", true)
  | 5 => ("CubeWorldsModel", "second", "[I", true)
  | _ => ("CubeWorldsModel", "third", "[I", true)
def tyX3 : Nat → FieldType := fun k => match k with
  | 0 => .array .int
  | 1 => .array .int
  | 2 => .array .int
  | 3 => .array .int
  | 4 => .array .int
  | 5 => .array .int
  | _ => .array .int
abbrev wsX30 : List Cond := u_ws RX3 TX3 7
theorem nmX3 : ∀ a, a < 7 → ∀ b, b < 7 → a ≠ b → (TX3 a).2.1 ≠ (TX3 b).2.1 := by decide +kernel
theorem tyX3_ok : ∀ k, k < 7 → parseFieldDescriptor (TX3 k).2.2.1 = some (tyX3 k) := by decide +kernel
abbrev cX3_init : ByteArray := prog_5_method_1_code
def yX3_init : MethodName := ⟨RX3, "<init>", "()V"⟩
abbrev cX3_in : ByteArray := prog_5_method_3_code
def yX3_in : MethodName := ⟨RX3, "in", "(III)Z"⟩
abbrev cX3_isSlot : ByteArray := prog_5_method_4_code
def yX3_isSlot : MethodName := ⟨RX3, "isSlot", "(I)Z"⟩
abbrev cX3_numbers : ByteArray := prog_5_method_5_code
def yX3_numbers : MethodName := ⟨RX3, "numbers", "(I)I"⟩
abbrev cX3_isNumber : ByteArray := prog_5_method_6_code
def yX3_isNumber : MethodName := ⟨RX3, "isNumber", "(II)Z"⟩
abbrev cX3_clear : ByteArray := prog_5_method_7_code
def yX3_clear : MethodName := ⟨RX3, "clear", "(II)V"⟩
abbrev cX3_world : ByteArray := prog_5_method_8_code
def yX3_world : MethodName := ⟨RX3, "world", "(II)I"⟩
abbrev cX3_put : ByteArray := prog_5_method_9_code
def yX3_put : MethodName := ⟨RX3, "put", "(IIII)I"⟩
abbrev cX3_field : ByteArray := prog_5_method_10_code
def yX3_field : MethodName := ⟨RX3, "field", "(II)I"⟩
abbrev cX3_times : ByteArray := prog_5_method_11_code
def yX3_times : MethodName := ⟨RX3, "times", "(III)I"⟩
abbrev cX3_product : ByteArray := prog_5_method_12_code
def yX3_product : MethodName := ⟨RX3, "product", "(III)I"⟩
abbrev cX3_firstBroken : ByteArray := prog_5_method_13_code
def yX3_firstBroken : MethodName := ⟨RX3, "firstBroken", "(I)I"⟩
abbrev cX3_divides : ByteArray := prog_5_method_14_code
def yX3_divides : MethodName := ⟨RX3, "divides", "(I)I"⟩
abbrev cX3_broken : ByteArray := prog_5_method_15_code
def yX3_broken : MethodName := ⟨RX3, "broken", "(IZ)I"⟩
abbrev cX3_one : ByteArray := prog_5_method_16_code
def yX3_one : MethodName := ⟨RX3, "one", "(I)I"⟩
abbrev cX3_quotient : ByteArray := prog_5_method_17_code
def yX3_quotient : MethodName := ⟨RX3, "quotient", "(IIIZ)I"⟩
abbrev cX3_bit : ByteArray := prog_5_method_18_code
def yX3_bit : MethodName := ⟨RX3, "bit", "(IIII)I"⟩
abbrev cX3_turned : ByteArray := prog_5_method_19_code
def yX3_turned : MethodName := ⟨RX3, "turned", "(IIIII)I"⟩
abbrev cX3_copy : ByteArray := prog_5_method_20_code
def yX3_copy : MethodName := ⟨RX3, "copy", "(II)V"⟩
abbrev cX3_turn : ByteArray := prog_5_method_21_code
def yX3_turn : MethodName := ⟨RX3, "turn", "(III)I"⟩
abbrev cX3_joinsTwo : ByteArray := prog_5_method_22_code
def yX3_joinsTwo : MethodName := ⟨RX3, "joinsTwo", "(IIIII)Z"⟩
abbrev cX3_joinsAll : ByteArray := prog_5_method_23_code
def yX3_joinsAll : MethodName := ⟨RX3, "joinsAll", "(III)Z"⟩
abbrev cX3_joins : ByteArray := prog_5_method_24_code
def yX3_joins : MethodName := ⟨RX3, "joins", "(III)I"⟩
abbrev cX3_many : ByteArray := prog_5_method_25_code
def yX3_many : MethodName := ⟨RX3, "many", "(II)I"⟩
abbrev cX3_unlike : ByteArray := prog_5_method_26_code
def yX3_unlike : MethodName := ⟨RX3, "unlike", "(I)I"⟩
abbrev cX3_isMap : ByteArray := prog_5_method_27_code
def yX3_isMap : MethodName := ⟨RX3, "isMap", "(I)Z"⟩
abbrev cX3_map : ByteArray := prog_5_method_28_code
def yX3_map : MethodName := ⟨RX3, "map", "(III)I"⟩
abbrev cX3_image : ByteArray := prog_5_method_29_code
def yX3_image : MethodName := ⟨RX3, "image", "(II)I"⟩
abbrev cX3_gives : ByteArray := prog_5_method_30_code
def yX3_gives : MethodName := ⟨RX3, "gives", "(II)I"⟩
abbrev cX3_isFit : ByteArray := prog_5_method_31_code
def yX3_isFit : MethodName := ⟨RX3, "isFit", "(II)Z"⟩
abbrev cX3_fits : ByteArray := prog_5_method_32_code
def yX3_fits : MethodName := ⟨RX3, "fits", "(II)I"⟩
abbrev cX3_alike : ByteArray := prog_5_method_33_code
def yX3_alike : MethodName := ⟨RX3, "alike", "(II)I"⟩
abbrev cX3_back : ByteArray := prog_5_method_34_code
def yX3_back : MethodName := ⟨RX3, "back", "(II)I"⟩
abbrev cX3_carry : ByteArray := prog_5_method_35_code
def yX3_carry : MethodName := ⟨RX3, "carry", "(II)I"⟩
abbrev cX3_lay : ByteArray := prog_5_method_36_code
def yX3_lay : MethodName := ⟨RX3, "lay", "([III)Z"⟩
abbrev cX3_hasThird : ByteArray := prog_5_method_37_code
def yX3_hasThird : MethodName := ⟨RX3, "hasThird", "(I)Z"⟩
abbrev cX3_ways : ByteArray := prog_5_method_38_code
def yX3_ways : MethodName := ⟨RX3, "ways", "(II)I"⟩
abbrev cX3_isPlace : ByteArray := prog_5_method_39_code
def yX3_isPlace : MethodName := ⟨RX3, "isPlace", "(II)Z"⟩
abbrev cX3_isOn : ByteArray := prog_5_method_40_code
def yX3_isOn : MethodName := ⟨RX3, "isOn", "(III)Z"⟩
abbrev cX3_on : ByteArray := prog_5_method_41_code
def yX3_on : MethodName := ⟨RX3, "on", "(III)I"⟩
abbrev cX3_common : ByteArray := prog_5_method_42_code
def yX3_common : MethodName := ⟨RX3, "common", "(IIIZ)I"⟩
abbrev cX3_join : ByteArray := prog_5_method_43_code
def yX3_join : MethodName := ⟨RX3, "join", "(III)I"⟩
abbrev cX3_meet : ByteArray := prog_5_method_44_code
def yX3_meet : MethodName := ⟨RX3, "meet", "(III)I"⟩
abbrev cX3_bad : ByteArray := prog_5_method_45_code
def yX3_bad : MethodName := ⟨RX3, "bad", "(I)I"⟩
abbrev cX3_rankOf : ByteArray := prog_5_method_46_code
def yX3_rankOf : MethodName := ⟨RX3, "rankOf", "(II)I"⟩
abbrev cX3_rank : ByteArray := prog_5_method_47_code
def yX3_rank : MethodName := ⟨RX3, "rank", "(II)I"⟩
abbrev cX3_ranks : ByteArray := prog_5_method_48_code
def yX3_ranks : MethodName := ⟨RX3, "ranks", "(II)I"⟩
abbrev cX3_cubes : ByteArray := prog_5_method_49_code
def yX3_cubes : MethodName := ⟨RX3, "cubes", "(I)I"⟩
def RJ6 : String := "java/lang/Integer"
def TJ6 : u_T := fun k => match k with
  | _ => ("", "", "", false)
def tyJ6 : Nat → FieldType := fun k => match k with
  | _ => .int
abbrev wsJ60 : List Cond := u_ws RJ6 TJ6 0
theorem nmJ6 : ∀ a, a < 0 → ∀ b, b < 0 → a ≠ b → (TJ6 a).2.1 ≠ (TJ6 b).2.1 := by decide +kernel
theorem tyJ6_ok : ∀ k, k < 0 → parseFieldDescriptor (TJ6 k).2.2.1 = some (tyJ6 k) := by decide +kernel
abbrev cJ6_bitCount_0f7a4 : ByteArray := prog_6_method_49_code
def yJ6_bitCount_0f7a4 : MethodName := ⟨RJ6, "bitCount", "(I)I"⟩
def RJ9 : String := "java/lang/Math"
def TJ9 : u_T := fun k => match k with
  | _ => ("", "", "", false)
def tyJ9 : Nat → FieldType := fun k => match k with
  | _ => .int
abbrev wsJ90 : List Cond := u_ws RJ9 TJ9 0
theorem nmJ9 : ∀ a, a < 0 → ∀ b, b < 0 → a ≠ b → (TJ9 a).2.1 ≠ (TJ9 b).2.1 := by decide +kernel
theorem tyJ9_ok : ∀ k, k < 0 → parseFieldDescriptor (TJ9 k).2.2.1 = some (tyJ9 k) := by decide +kernel
abbrev cJ9_max_7cf53 : ByteArray := prog_7_method_65_code
def yJ9_max_7cf53 : MethodName := ⟨RJ9, "max", "(II)I"⟩
abbrev cJ9_min_7cf53 : ByteArray := prog_7_method_69_code
def yJ9_min_7cf53 : MethodName := ⟨RJ9, "min", "(II)I"⟩
def RL : String := "CubeWorldsLaw"
abbrev cL_law : ByteArray := code
def yL_law : MethodName := ⟨RL, "law", "([I)Z"⟩
def wsX1_size : List Cond := .code yX1_size cX1_size 1 (some .int) :: ([.fieldLink RX1 15 "CubeWorlds$World" "size" "I"] ++ wsX10)
def wsX0_insideOf : List Cond := .code yX0_insideOf cX0_insideOf 1 (some .int) :: ([.methodLink RX0 15 yX1_size, .instanceMethod yX1_size, .selects RX1 yX1_size yX1_size, .initialized RX1, .code yX1_size cX1_size 1 (some .int), .fieldLink RX1 15 "CubeWorlds$World" "size" "I"] ++ wsX10)
def wsX0_lastOf : List Cond := .code yX0_lastOf cX0_lastOf 1 (some .int) :: ([.methodLink RX0 21 yX0_insideOf, .static yX0_insideOf, .initialized RX0, .code yX0_insideOf cX0_insideOf 1 (some .int), .methodLink RX0 15 yX1_size, .instanceMethod yX1_size, .selects RX1 yX1_size yX1_size, .initialized RX1, .code yX1_size cX1_size 1 (some .int), .fieldLink RX1 15 "CubeWorlds$World" "size" "I"] ++ wsX10)
def wsX0_has : List Cond := .code yX0_has cX0_has 2 (some .boolean) :: ([.methodLink RX0 9 yX0_lastOf, .static yX0_lastOf, .initialized RX0, .code yX0_lastOf cX0_lastOf 1 (some .int), .methodLink RX0 21 yX0_insideOf, .static yX0_insideOf, .code yX0_insideOf cX0_insideOf 1 (some .int), .methodLink RX0 15 yX1_size, .instanceMethod yX1_size, .selects RX1 yX1_size yX1_size, .initialized RX1, .code yX1_size cX1_size 1 (some .int), .fieldLink RX1 15 "CubeWorlds$World" "size" "I"] ++ wsX10)
def wsX1_bits : List Cond := .code yX1_bits cX1_bits 1 (some .int) :: ([.fieldLink RX1 9 "CubeWorlds$World" "bits" "I"] ++ wsX10)
def wsX0_highPart : List Cond := .code yX0_highPart cX0_highPart 2 (some .int) :: ([.methodLink RX0 24 yX1_bits, .instanceMethod yX1_bits, .selects RX1 yX1_bits yX1_bits, .initialized RX1, .code yX1_bits cX1_bits 1 (some .int), .fieldLink RX1 9 "CubeWorlds$World" "bits" "I"] ++ wsX10)
def wsX0_lowPart : List Cond := .code yX0_lowPart cX0_lowPart 2 (some .int) :: ([.methodLink RX0 15 yX1_size, .instanceMethod yX1_size, .selects RX1 yX1_size yX1_size, .initialized RX1, .code yX1_size cX1_size 1 (some .int), .fieldLink RX1 15 "CubeWorlds$World" "size" "I"] ++ wsX10)
def wsX1_tableIndex : List Cond := .code yX1_tableIndex cX1_tableIndex 2 (some .int) :: ([])
def wsX1_times : List Cond := .code yX1_times cX1_times 3 (some .int) :: ([.fieldLink RX1 22 "CubeWorlds$World" "table" "[I", .methodLink RX1 39 yX1_tableIndex, .static yX1_tableIndex, .initialized RX1, .code yX1_tableIndex cX1_tableIndex 2 (some .int)] ++ wsX10)
def wsX0_lies_r1 : List Cond := [Cond.methodLink RX0 21 yX0_insideOf, Cond.static yX0_insideOf, Cond.initialized RX0, Cond.code yX0_insideOf cX0_insideOf 1 (some .int), Cond.methodLink RX0 15 yX1_size, Cond.instanceMethod yX1_size, Cond.selects RX1 yX1_size yX1_size, Cond.initialized RX1, Cond.code yX1_size cX1_size 1 (some .int), Cond.fieldLink RX1 15 "CubeWorlds$World" "size" "I", Cond.methodLink RX0 9 yX0_lastOf, Cond.static yX0_lastOf, Cond.code yX0_lastOf cX0_lastOf 1 (some .int), Cond.methodLink RX0 27 yX0_highPart, Cond.static yX0_highPart, Cond.code yX0_highPart cX0_highPart 2 (some .int), Cond.methodLink RX0 24 yX1_bits, Cond.instanceMethod yX1_bits, Cond.selects RX1 yX1_bits yX1_bits, Cond.code yX1_bits cX1_bits 1 (some .int), Cond.fieldLink RX1 9 "CubeWorlds$World" "bits" "I", Cond.methodLink RX0 31 yX1_times, Cond.instanceMethod yX1_times, Cond.selects RX1 yX1_times yX1_times]
def wsX0_lies_r2 : List Cond := [Cond.code yX1_times cX1_times 3 (some .int), Cond.fieldLink RX1 22 "CubeWorlds$World" "table" "[I", Cond.methodLink RX1 39 yX1_tableIndex, Cond.static yX1_tableIndex, Cond.code yX1_tableIndex cX1_tableIndex 2 (some .int), Cond.methodLink RX0 35 yX0_lowPart, Cond.static yX0_lowPart, Cond.code yX0_lowPart cX0_lowPart 2 (some .int)]
def wsX0_lies : List Cond := .code yX0_lies cX0_lies 6 (some .boolean) :: ((wsX0_lies_r1 ++ wsX0_lies_r2) ++ wsX10)
def wsX1_solve : List Cond := .code yX1_solve cX1_solve 7 (some .int) :: ([.fieldLink RX1 15 "CubeWorlds$World" "size" "I", .methodLink RX1 53 yX1_times, .instanceMethod yX1_times, .selects RX1 yX1_times yX1_times, .initialized RX1, .code yX1_times cX1_times 3 (some .int), .fieldLink RX1 22 "CubeWorlds$World" "table" "[I", .methodLink RX1 39 yX1_tableIndex, .static yX1_tableIndex, .code yX1_tableIndex cX1_tableIndex 2 (some .int)] ++ wsX10)
def wsX0_lineThrough_r1 : List Cond := [Cond.methodLink RX0 21 yX0_insideOf, Cond.static yX0_insideOf, Cond.initialized RX0, Cond.code yX0_insideOf cX0_insideOf 1 (some .int), Cond.methodLink RX0 15 yX1_size, Cond.instanceMethod yX1_size, Cond.selects RX1 yX1_size yX1_size, Cond.initialized RX1, Cond.code yX1_size cX1_size 1 (some .int), Cond.fieldLink RX1 15 "CubeWorlds$World" "size" "I", Cond.methodLink RX0 9 yX0_lastOf, Cond.static yX0_lastOf, Cond.code yX0_lastOf cX0_lastOf 1 (some .int), Cond.methodLink RX0 27 yX0_highPart, Cond.static yX0_highPart, Cond.code yX0_highPart cX0_highPart 2 (some .int), Cond.methodLink RX0 24 yX1_bits, Cond.instanceMethod yX1_bits, Cond.selects RX1 yX1_bits yX1_bits, Cond.code yX1_bits cX1_bits 1 (some .int), Cond.fieldLink RX1 9 "CubeWorlds$World" "bits" "I", Cond.methodLink RX0 35 yX0_lowPart, Cond.static yX0_lowPart, Cond.code yX0_lowPart cX0_lowPart 2 (some .int)]
def wsX0_lineThrough_r2 : List Cond := [Cond.methodLink RX0 38 yX1_solve, Cond.instanceMethod yX1_solve, Cond.selects RX1 yX1_solve yX1_solve, Cond.code yX1_solve cX1_solve 7 (some .int), Cond.methodLink RX1 53 yX1_times, Cond.instanceMethod yX1_times, Cond.selects RX1 yX1_times yX1_times, Cond.code yX1_times cX1_times 3 (some .int), Cond.fieldLink RX1 22 "CubeWorlds$World" "table" "[I", Cond.methodLink RX1 39 yX1_tableIndex, Cond.static yX1_tableIndex, Cond.code yX1_tableIndex cX1_tableIndex 2 (some .int), Cond.methodLink RX0 31 yX1_times]
def wsX0_lineThrough : List Cond := .code yX0_lineThrough cX0_lineThrough 8 (some .int) :: ((wsX0_lineThrough_r1 ++ wsX0_lineThrough_r2) ++ wsX10)
def wsX0_pointOfBoth_r1 : List Cond := [Cond.methodLink RX0 21 yX0_insideOf, Cond.static yX0_insideOf, Cond.initialized RX0, Cond.code yX0_insideOf cX0_insideOf 1 (some .int), Cond.methodLink RX0 15 yX1_size, Cond.instanceMethod yX1_size, Cond.selects RX1 yX1_size yX1_size, Cond.initialized RX1, Cond.code yX1_size cX1_size 1 (some .int), Cond.fieldLink RX1 15 "CubeWorlds$World" "size" "I", Cond.methodLink RX0 9 yX0_lastOf, Cond.static yX0_lastOf, Cond.code yX0_lastOf cX0_lastOf 1 (some .int), Cond.methodLink RX0 27 yX0_highPart, Cond.static yX0_highPart, Cond.code yX0_highPart cX0_highPart 2 (some .int), Cond.methodLink RX0 24 yX1_bits, Cond.instanceMethod yX1_bits, Cond.selects RX1 yX1_bits yX1_bits, Cond.code yX1_bits cX1_bits 1 (some .int), Cond.fieldLink RX1 9 "CubeWorlds$World" "bits" "I", Cond.methodLink RX0 35 yX0_lowPart, Cond.static yX0_lowPart, Cond.code yX0_lowPart cX0_lowPart 2 (some .int)]
def wsX0_pointOfBoth_r2 : List Cond := [Cond.methodLink RX0 38 yX1_solve, Cond.instanceMethod yX1_solve, Cond.selects RX1 yX1_solve yX1_solve, Cond.code yX1_solve cX1_solve 7 (some .int), Cond.methodLink RX1 53 yX1_times, Cond.instanceMethod yX1_times, Cond.selects RX1 yX1_times yX1_times, Cond.code yX1_times cX1_times 3 (some .int), Cond.fieldLink RX1 22 "CubeWorlds$World" "table" "[I", Cond.methodLink RX1 39 yX1_tableIndex, Cond.static yX1_tableIndex, Cond.code yX1_tableIndex cX1_tableIndex 2 (some .int), Cond.methodLink RX0 31 yX1_times]
def wsX0_pointOfBoth : List Cond := .code yX0_pointOfBoth cX0_pointOfBoth 8 (some .int) :: ((wsX0_pointOfBoth_r1 ++ wsX0_pointOfBoth_r2) ++ wsX10)
def wsX1_leastPartner : List Cond := .code yX1_leastPartner cX1_leastPartner 3 (some .int) :: ([.fieldLink RX1 15 "CubeWorlds$World" "size" "I", .methodLink RX1 53 yX1_times, .instanceMethod yX1_times, .selects RX1 yX1_times yX1_times, .initialized RX1, .code yX1_times cX1_times 3 (some .int), .fieldLink RX1 22 "CubeWorlds$World" "table" "[I", .methodLink RX1 39 yX1_tableIndex, .static yX1_tableIndex, .code yX1_tableIndex cX1_tableIndex 2 (some .int)] ++ wsX10)
def wsX0_countBadPairs : List Cond := .code yX0_countBadPairs cX0_countBadPairs 3 (some .int) :: ([.methodLink RX0 15 yX1_size, .instanceMethod yX1_size, .selects RX1 yX1_size yX1_size, .initialized RX1, .code yX1_size cX1_size 1 (some .int), .fieldLink RX1 15 "CubeWorlds$World" "size" "I", .methodLink RX0 42 yX1_leastPartner, .instanceMethod yX1_leastPartner, .selects RX1 yX1_leastPartner yX1_leastPartner, .code yX1_leastPartner cX1_leastPartner 3 (some .int), .methodLink RX1 53 yX1_times, .instanceMethod yX1_times, .selects RX1 yX1_times yX1_times, .code yX1_times cX1_times 3 (some .int), .fieldLink RX1 22 "CubeWorlds$World" "table" "[I", .methodLink RX1 39 yX1_tableIndex, .static yX1_tableIndex, .code yX1_tableIndex cX1_tableIndex 2 (some .int), .methodLink RX0 21 yX0_insideOf, .static yX0_insideOf, .initialized RX0, .code yX0_insideOf cX0_insideOf 1 (some .int)] ++ wsX10)
def wsX2_cellIndex : List Cond := .code yX2_cellIndex cX2_cellIndex 2 (some .int) :: ([])
def wsX1_cell : List Cond := .code yX1_cell cX1_cell 3 (some .int) :: ([.fieldLink RX1 18 "CubeWorlds$World" "cube" "[I", .static yX2_cellIndex, .initialized RX2, .code yX2_cellIndex cX2_cellIndex 2 (some .int)] ++ wsX10)
def wsX1_sumOfCells : List Cond := .code yX1_sumOfCells cX1_sumOfCells 6 (some .int) :: ([.fieldLink RX1 9 "CubeWorlds$World" "bits" "I", .methodLink RX1 33 yX1_cell, .instanceMethod yX1_cell, .selects RX1 yX1_cell yX1_cell, .initialized RX1, .code yX1_cell cX1_cell 3 (some .int), .fieldLink RX1 18 "CubeWorlds$World" "cube" "[I", .static yX2_cellIndex, .initialized RX2, .code yX2_cellIndex cX2_cellIndex 2 (some .int)] ++ wsX10)
def wsX1_fillTable : List Cond := .code yX1_fillTable cX1_fillTable 3 none :: ([.fieldLink RX1 15 "CubeWorlds$World" "size" "I", .fieldLink RX1 22 "CubeWorlds$World" "table" "[I", .methodLink RX1 39 yX1_tableIndex, .static yX1_tableIndex, .initialized RX1, .code yX1_tableIndex cX1_tableIndex 2 (some .int), .methodLink RX1 42 yX1_sumOfCells, .instanceMethod yX1_sumOfCells, .selects RX1 yX1_sumOfCells yX1_sumOfCells, .code yX1_sumOfCells cX1_sumOfCells 6 (some .int), .fieldLink RX1 9 "CubeWorlds$World" "bits" "I", .methodLink RX1 33 yX1_cell, .instanceMethod yX1_cell, .selects RX1 yX1_cell yX1_cell, .code yX1_cell cX1_cell 3 (some .int), .fieldLink RX1 18 "CubeWorlds$World" "cube" "[I", .static yX2_cellIndex, .initialized RX2, .code yX2_cellIndex cX2_cellIndex 2 (some .int)] ++ wsX10)
def wsX1_changeCell : List Cond := .code yX1_changeCell cX1_changeCell 4 none :: ([.fieldLink RX1 18 "CubeWorlds$World" "cube" "[I", .static yX2_cellIndex, .initialized RX2, .code yX2_cellIndex cX2_cellIndex 2 (some .int), .methodLink RX1 36 yX1_fillTable, .instanceMethod yX1_fillTable, .selects RX1 yX1_fillTable yX1_fillTable, .initialized RX1, .code yX1_fillTable cX1_fillTable 3 none, .fieldLink RX1 15 "CubeWorlds$World" "size" "I", .fieldLink RX1 22 "CubeWorlds$World" "table" "[I", .methodLink RX1 39 yX1_tableIndex, .static yX1_tableIndex, .code yX1_tableIndex cX1_tableIndex 2 (some .int), .methodLink RX1 42 yX1_sumOfCells, .instanceMethod yX1_sumOfCells, .selects RX1 yX1_sumOfCells yX1_sumOfCells, .code yX1_sumOfCells cX1_sumOfCells 6 (some .int), .fieldLink RX1 9 "CubeWorlds$World" "bits" "I", .methodLink RX1 33 yX1_cell, .instanceMethod yX1_cell, .selects RX1 yX1_cell yX1_cell, .code yX1_cell cX1_cell 3 (some .int)] ++ wsX10)
def wsX1_init_r1 : List Cond := [Cond.methodLink RX1 3 objectInit, Cond.instanceMethod objectInit, Cond.code objectInit ⟨#[0xb1]⟩ 1 none, Cond.fieldLink RX1 9 "CubeWorlds$World" "bits" "I", Cond.fieldLink RX1 15 "CubeWorlds$World" "size" "I", Cond.arrayClass .int, Cond.fieldLink RX1 18 "CubeWorlds$World" "cube" "[I", Cond.fieldLink RX1 22 "CubeWorlds$World" "table" "[I", Cond.methodLink RX1 25 yX1_changeCell, Cond.instanceMethod yX1_changeCell, Cond.selects RX1 yX1_changeCell yX1_changeCell, Cond.initialized RX1, Cond.code yX1_changeCell cX1_changeCell 4 none, Cond.static yX2_cellIndex, Cond.initialized RX2, Cond.code yX2_cellIndex cX2_cellIndex 2 (some .int), Cond.methodLink RX1 36 yX1_fillTable, Cond.instanceMethod yX1_fillTable, Cond.selects RX1 yX1_fillTable yX1_fillTable, Cond.code yX1_fillTable cX1_fillTable 3 none, Cond.methodLink RX1 39 yX1_tableIndex, Cond.static yX1_tableIndex, Cond.code yX1_tableIndex cX1_tableIndex 2 (some .int), Cond.methodLink RX1 42 yX1_sumOfCells]
def wsX1_init_r2 : List Cond := [Cond.instanceMethod yX1_sumOfCells, Cond.selects RX1 yX1_sumOfCells yX1_sumOfCells, Cond.code yX1_sumOfCells cX1_sumOfCells 6 (some .int), Cond.methodLink RX1 33 yX1_cell, Cond.instanceMethod yX1_cell, Cond.selects RX1 yX1_cell yX1_cell, Cond.code yX1_cell cX1_cell 3 (some .int)]
def wsX1_init : List Cond := .code yX1_init cX1_init 1 none :: ((wsX1_init_r1 ++ wsX1_init_r2) ++ wsX10)
def wsX1_has : List Cond := .code yX1_has cX1_has 2 (some .boolean) :: ([.fieldLink RX1 15 "CubeWorlds$World" "size" "I"] ++ wsX10)
def wsX1_hasBit : List Cond := .code yX1_hasBit cX1_hasBit 2 (some .boolean) :: ([.fieldLink RX1 9 "CubeWorlds$World" "bits" "I"] ++ wsX10)
def wsX1_cubeBit : List Cond := .code yX1_cubeBit cX1_cubeBit 4 (some .int) :: ([.methodLink RX1 33 yX1_cell, .instanceMethod yX1_cell, .selects RX1 yX1_cell yX1_cell, .initialized RX1, .code yX1_cell cX1_cell 3 (some .int), .fieldLink RX1 18 "CubeWorlds$World" "cube" "[I", .static yX2_cellIndex, .initialized RX2, .code yX2_cellIndex cX2_cellIndex 2 (some .int)] ++ wsX10)
def wsX1_take : List Cond := .code yX1_take cX1_take 4 none :: ([.fieldLink RX1 9 "CubeWorlds$World" "bits" "I", .fieldLink RX1 15 "CubeWorlds$World" "size" "I", .fieldLink RX1 18 "CubeWorlds$World" "cube" "[I", .methodLink RX1 36 yX1_fillTable, .instanceMethod yX1_fillTable, .selects RX1 yX1_fillTable yX1_fillTable, .initialized RX1, .code yX1_fillTable cX1_fillTable 3 none, .fieldLink RX1 22 "CubeWorlds$World" "table" "[I", .methodLink RX1 39 yX1_tableIndex, .static yX1_tableIndex, .code yX1_tableIndex cX1_tableIndex 2 (some .int), .methodLink RX1 42 yX1_sumOfCells, .instanceMethod yX1_sumOfCells, .selects RX1 yX1_sumOfCells yX1_sumOfCells, .code yX1_sumOfCells cX1_sumOfCells 6 (some .int), .methodLink RX1 33 yX1_cell, .instanceMethod yX1_cell, .selects RX1 yX1_cell yX1_cell, .code yX1_cell cX1_cell 3 (some .int), .static yX2_cellIndex, .initialized RX2, .code yX2_cellIndex cX2_cellIndex 2 (some .int)] ++ wsX10)
def wsX1_leastBroken : List Cond := .code yX1_leastBroken cX1_leastBroken 2 (some .int) :: ([.fieldLink RX1 15 "CubeWorlds$World" "size" "I", .methodLink RX1 49 yX1_leastPartner, .instanceMethod yX1_leastPartner, .selects RX1 yX1_leastPartner yX1_leastPartner, .initialized RX1, .code yX1_leastPartner cX1_leastPartner 3 (some .int), .methodLink RX1 53 yX1_times, .instanceMethod yX1_times, .selects RX1 yX1_times yX1_times, .code yX1_times cX1_times 3 (some .int), .fieldLink RX1 22 "CubeWorlds$World" "table" "[I", .methodLink RX1 39 yX1_tableIndex, .static yX1_tableIndex, .code yX1_tableIndex cX1_tableIndex 2 (some .int)] ++ wsX10)
def wsX1_isWhole : List Cond := .code yX1_isWhole cX1_isWhole 1 (some .boolean) :: ([.methodLink RX1 45 yX1_leastBroken, .instanceMethod yX1_leastBroken, .selects RX1 yX1_leastBroken yX1_leastBroken, .initialized RX1, .code yX1_leastBroken cX1_leastBroken 2 (some .int), .fieldLink RX1 15 "CubeWorlds$World" "size" "I", .methodLink RX1 49 yX1_leastPartner, .instanceMethod yX1_leastPartner, .selects RX1 yX1_leastPartner yX1_leastPartner, .code yX1_leastPartner cX1_leastPartner 3 (some .int), .methodLink RX1 53 yX1_times, .instanceMethod yX1_times, .selects RX1 yX1_times yX1_times, .code yX1_times cX1_times 3 (some .int), .fieldLink RX1 22 "CubeWorlds$World" "table" "[I", .methodLink RX1 39 yX1_tableIndex, .static yX1_tableIndex, .code yX1_tableIndex cX1_tableIndex 2 (some .int)] ++ wsX10)
def wsX1_isUnit : List Cond := .code yX1_isUnit cX1_isUnit 3 (some .boolean) :: ([.fieldLink RX1 15 "CubeWorlds$World" "size" "I", .methodLink RX1 53 yX1_times, .instanceMethod yX1_times, .selects RX1 yX1_times yX1_times, .initialized RX1, .code yX1_times cX1_times 3 (some .int), .fieldLink RX1 22 "CubeWorlds$World" "table" "[I", .methodLink RX1 39 yX1_tableIndex, .static yX1_tableIndex, .code yX1_tableIndex cX1_tableIndex 2 (some .int)] ++ wsX10)
def wsX1_unit : List Cond := .code yX1_unit cX1_unit 2 (some .int) :: ([.fieldLink RX1 15 "CubeWorlds$World" "size" "I", .methodLink RX1 56 yX1_isUnit, .instanceMethod yX1_isUnit, .selects RX1 yX1_isUnit yX1_isUnit, .initialized RX1, .code yX1_isUnit cX1_isUnit 3 (some .boolean), .methodLink RX1 53 yX1_times, .instanceMethod yX1_times, .selects RX1 yX1_times yX1_times, .code yX1_times cX1_times 3 (some .int), .fieldLink RX1 22 "CubeWorlds$World" "table" "[I", .methodLink RX1 39 yX1_tableIndex, .static yX1_tableIndex, .code yX1_tableIndex cX1_tableIndex 2 (some .int)] ++ wsX10)
def wsX1_commutes : List Cond := .code yX1_commutes cX1_commutes 3 (some .boolean) :: ([.fieldLink RX1 9 "CubeWorlds$World" "bits" "I", .methodLink RX1 53 yX1_times, .instanceMethod yX1_times, .selects RX1 yX1_times yX1_times, .initialized RX1, .code yX1_times cX1_times 3 (some .int), .fieldLink RX1 22 "CubeWorlds$World" "table" "[I", .methodLink RX1 39 yX1_tableIndex, .static yX1_tableIndex, .code yX1_tableIndex cX1_tableIndex 2 (some .int)] ++ wsX10)
def wsX1_isOneProduct : List Cond := .code yX1_isOneProduct cX1_isOneProduct 4 (some .boolean) :: ([.methodLink RX1 53 yX1_times, .instanceMethod yX1_times, .selects RX1 yX1_times yX1_times, .initialized RX1, .code yX1_times cX1_times 3 (some .int), .fieldLink RX1 22 "CubeWorlds$World" "table" "[I", .methodLink RX1 39 yX1_tableIndex, .static yX1_tableIndex, .code yX1_tableIndex cX1_tableIndex 2 (some .int)] ++ wsX10)
def wsX1_associatesWith : List Cond := .code yX1_associatesWith cX1_associatesWith 5 (some .boolean) :: ([.methodLink RX1 71 yX1_isOneProduct, .instanceMethod yX1_isOneProduct, .selects RX1 yX1_isOneProduct yX1_isOneProduct, .initialized RX1, .code yX1_isOneProduct cX1_isOneProduct 4 (some .boolean), .methodLink RX1 53 yX1_times, .instanceMethod yX1_times, .selects RX1 yX1_times yX1_times, .code yX1_times cX1_times 3 (some .int), .fieldLink RX1 22 "CubeWorlds$World" "table" "[I", .methodLink RX1 39 yX1_tableIndex, .static yX1_tableIndex, .code yX1_tableIndex cX1_tableIndex 2 (some .int)] ++ wsX10)
def wsX1_associates : List Cond := .code yX1_associates cX1_associates 5 (some .boolean) :: ([.fieldLink RX1 9 "CubeWorlds$World" "bits" "I", .methodLink RX1 67 yX1_associatesWith, .instanceMethod yX1_associatesWith, .selects RX1 yX1_associatesWith yX1_associatesWith, .initialized RX1, .code yX1_associatesWith cX1_associatesWith 5 (some .boolean), .methodLink RX1 71 yX1_isOneProduct, .instanceMethod yX1_isOneProduct, .selects RX1 yX1_isOneProduct yX1_isOneProduct, .code yX1_isOneProduct cX1_isOneProduct 4 (some .boolean), .methodLink RX1 53 yX1_times, .instanceMethod yX1_times, .selects RX1 yX1_times yX1_times, .code yX1_times cX1_times 3 (some .int), .fieldLink RX1 22 "CubeWorlds$World" "table" "[I", .methodLink RX1 39 yX1_tableIndex, .static yX1_tableIndex, .code yX1_tableIndex cX1_tableIndex 2 (some .int)] ++ wsX10)
def wsX1_joinsIn_r1 : List Cond := [Cond.methodLink RX1 60 yX1_commutes, Cond.instanceMethod yX1_commutes, Cond.selects RX1 yX1_commutes yX1_commutes, Cond.initialized RX1, Cond.code yX1_commutes cX1_commutes 3 (some .boolean), Cond.fieldLink RX1 9 "CubeWorlds$World" "bits" "I", Cond.methodLink RX1 53 yX1_times, Cond.instanceMethod yX1_times, Cond.selects RX1 yX1_times yX1_times, Cond.code yX1_times cX1_times 3 (some .int), Cond.fieldLink RX1 22 "CubeWorlds$World" "table" "[I", Cond.methodLink RX1 39 yX1_tableIndex, Cond.static yX1_tableIndex, Cond.code yX1_tableIndex cX1_tableIndex 2 (some .int), Cond.methodLink RX1 63 yX1_associates, Cond.instanceMethod yX1_associates, Cond.selects RX1 yX1_associates yX1_associates, Cond.code yX1_associates cX1_associates 5 (some .boolean), Cond.methodLink RX1 67 yX1_associatesWith, Cond.instanceMethod yX1_associatesWith, Cond.selects RX1 yX1_associatesWith yX1_associatesWith, Cond.code yX1_associatesWith cX1_associatesWith 5 (some .boolean), Cond.methodLink RX1 71 yX1_isOneProduct, Cond.instanceMethod yX1_isOneProduct]
def wsX1_joinsIn_r2 : List Cond := [Cond.selects RX1 yX1_isOneProduct yX1_isOneProduct, Cond.code yX1_isOneProduct cX1_isOneProduct 4 (some .boolean)]
def wsX1_joinsIn : List Cond := .code yX1_joinsIn cX1_joinsIn 3 (some .boolean) :: ((wsX1_joinsIn_r1 ++ wsX1_joinsIn_r2) ++ wsX10)
def wsX1_countUnlike : List Cond := .code yX1_countUnlike cX1_countUnlike 4 (some .int) :: ([.fieldLink RX1 15 "CubeWorlds$World" "size" "I", .methodLink RX1 53 yX1_times, .instanceMethod yX1_times, .selects RX1 yX1_times yX1_times, .initialized RX1, .code yX1_times cX1_times 3 (some .int), .fieldLink RX1 22 "CubeWorlds$World" "table" "[I", .methodLink RX1 39 yX1_tableIndex, .static yX1_tableIndex, .code yX1_tableIndex cX1_tableIndex 2 (some .int)] ++ wsX10)
def wsJ6_bitCount_0f7a4 : List Cond := .code yJ6_bitCount_0f7a4 cJ6_bitCount_0f7a4 1 (some .int) :: ([.constant RJ6 265 (1431655765), .constant RJ6 266 (858993459), .constant RJ6 267 (252645135)])
def wsX1_rankOf : List Cond := .code yX1_rankOf cX1_rankOf 5 (some .int) :: ([.fieldLink RX1 15 "CubeWorlds$World" "size" "I", .fieldLink RX1 9 "CubeWorlds$World" "bits" "I", .methodLink RX1 53 yX1_times, .instanceMethod yX1_times, .selects RX1 yX1_times yX1_times, .initialized RX1, .code yX1_times cX1_times 3 (some .int), .fieldLink RX1 22 "CubeWorlds$World" "table" "[I", .methodLink RX1 39 yX1_tableIndex, .static yX1_tableIndex, .code yX1_tableIndex cX1_tableIndex 2 (some .int), .methodLink RX1 75 yJ6_bitCount_0f7a4, .static yJ6_bitCount_0f7a4, .initialized RJ6, .code yJ6_bitCount_0f7a4 cJ6_bitCount_0f7a4 1 (some .int), .constant RJ6 265 (1431655765), .constant RJ6 266 (858993459), .constant RJ6 267 (252645135)] ++ wsX10)
def wsX2_init_r1 : List Cond := [Cond.methodLink RX2 1 objectInit, Cond.instanceMethod objectInit, Cond.code objectInit ⟨#[0xb1]⟩ 1 none, Cond.classLink RX2 9 RX1, Cond.fieldLink RX2 11 "CubeWorlds" "worlds" "[LCubeWorlds$World;", Cond.classLink RX2 15 "[[I", Cond.arrayClass .int, Cond.fieldLink RX2 17 "CubeWorlds" "maps" "[[I", Cond.instantiable RX1 4, Cond.initialized RX1, Cond.fieldLink RX2 21 "CubeWorlds" "trial" "LCubeWorlds$World;", Cond.fieldLink RX2 25 "CubeWorlds" "cells" "[I", Cond.fieldLink RX2 29 "CubeWorlds" "tryA" "[I", Cond.fieldLink RX2 32 "CubeWorlds" "tryC" "[I", Cond.fieldLink RX2 35 "CubeWorlds" "unwound" "[I", Cond.methodLink RX2 20 yX1_init, Cond.instanceMethod yX1_init, Cond.code yX1_init cX1_init 1 none, Cond.methodLink RX1 3 objectInit, Cond.fieldLink RX1 9 "CubeWorlds$World" "bits" "I", Cond.fieldLink RX1 15 "CubeWorlds$World" "size" "I", Cond.fieldLink RX1 18 "CubeWorlds$World" "cube" "[I", Cond.fieldLink RX1 22 "CubeWorlds$World" "table" "[I", Cond.methodLink RX1 25 yX1_changeCell]
def wsX2_init_r2 : List Cond := [Cond.instanceMethod yX1_changeCell, Cond.selects RX1 yX1_changeCell yX1_changeCell, Cond.code yX1_changeCell cX1_changeCell 4 none, Cond.static yX2_cellIndex, Cond.initialized RX2, Cond.code yX2_cellIndex cX2_cellIndex 2 (some .int), Cond.methodLink RX1 36 yX1_fillTable, Cond.instanceMethod yX1_fillTable, Cond.selects RX1 yX1_fillTable yX1_fillTable, Cond.code yX1_fillTable cX1_fillTable 3 none, Cond.methodLink RX1 39 yX1_tableIndex, Cond.static yX1_tableIndex, Cond.code yX1_tableIndex cX1_tableIndex 2 (some .int), Cond.methodLink RX1 42 yX1_sumOfCells, Cond.instanceMethod yX1_sumOfCells, Cond.selects RX1 yX1_sumOfCells yX1_sumOfCells, Cond.code yX1_sumOfCells cX1_sumOfCells 6 (some .int), Cond.methodLink RX1 33 yX1_cell, Cond.instanceMethod yX1_cell, Cond.selects RX1 yX1_cell yX1_cell, Cond.code yX1_cell cX1_cell 3 (some .int)]
def wsX2_init : List Cond := .code yX2_init cX2_init 2 none :: ((wsX2_init_r1 ++ wsX2_init_r2) ++ wsX20 ++ wsX10)
def wsX2_worldIn : List Cond := .code yX2_worldIn cX2_worldIn 2 (some (.object "CubeWorlds$World")) :: ([.fieldLink RX2 11 "CubeWorlds" "worlds" "[LCubeWorlds$World;"] ++ wsX20)
def wsX2_isSomeN : List Cond := .code yX2_isSomeN cX2_isSomeN 1 (some .boolean) :: ([])
def wsX2_world_r1 : List Cond := [Cond.fieldLink RX2 25 "CubeWorlds" "cells" "[I", Cond.methodLink RX2 38 yX2_worldIn, Cond.instanceMethod yX2_worldIn, Cond.selects RX2 yX2_worldIn yX2_worldIn, Cond.initialized RX2, Cond.code yX2_worldIn cX2_worldIn 2 (some (.object "CubeWorlds$World")), Cond.fieldLink RX2 11 "CubeWorlds" "worlds" "[LCubeWorlds$World;", Cond.methodLink RX2 42 yX2_isSomeN, Cond.static yX2_isSomeN, Cond.code yX2_isSomeN cX2_isSomeN 1 (some .boolean), Cond.methodLink RX2 46 yX2_cellIndex, Cond.static yX2_cellIndex, Cond.code yX2_cellIndex cX2_cellIndex 2 (some .int), Cond.methodLink RX2 50 yX1_take, Cond.instanceMethod yX1_take, Cond.selects RX1 yX1_take yX1_take, Cond.initialized RX1, Cond.code yX1_take cX1_take 4 none, Cond.fieldLink RX1 9 "CubeWorlds$World" "bits" "I", Cond.fieldLink RX1 15 "CubeWorlds$World" "size" "I", Cond.fieldLink RX1 18 "CubeWorlds$World" "cube" "[I", Cond.methodLink RX1 36 yX1_fillTable, Cond.instanceMethod yX1_fillTable, Cond.selects RX1 yX1_fillTable yX1_fillTable]
def wsX2_world_r2 : List Cond := [Cond.code yX1_fillTable cX1_fillTable 3 none, Cond.fieldLink RX1 22 "CubeWorlds$World" "table" "[I", Cond.methodLink RX1 39 yX1_tableIndex, Cond.static yX1_tableIndex, Cond.code yX1_tableIndex cX1_tableIndex 2 (some .int), Cond.methodLink RX1 42 yX1_sumOfCells, Cond.instanceMethod yX1_sumOfCells, Cond.selects RX1 yX1_sumOfCells yX1_sumOfCells, Cond.code yX1_sumOfCells cX1_sumOfCells 6 (some .int), Cond.methodLink RX1 33 yX1_cell, Cond.instanceMethod yX1_cell, Cond.selects RX1 yX1_cell yX1_cell, Cond.code yX1_cell cX1_cell 3 (some .int), Cond.methodLink RX2 54 yX1_size, Cond.instanceMethod yX1_size, Cond.selects RX1 yX1_size yX1_size, Cond.code yX1_size cX1_size 1 (some .int)]
def wsX2_world : List Cond := .code yX2_world cX2_world 6 (some .int) :: ((wsX2_world_r1 ++ wsX2_world_r2) ++ wsX20 ++ wsX10)
def wsX2_put_r1 : List Cond := [Cond.methodLink RX2 38 yX2_worldIn, Cond.instanceMethod yX2_worldIn, Cond.selects RX2 yX2_worldIn yX2_worldIn, Cond.initialized RX2, Cond.code yX2_worldIn cX2_worldIn 2 (some (.object "CubeWorlds$World")), Cond.fieldLink RX2 11 "CubeWorlds" "worlds" "[LCubeWorlds$World;", Cond.methodLink RX2 58 yX1_has, Cond.instanceMethod yX1_has, Cond.selects RX1 yX1_has yX1_has, Cond.initialized RX1, Cond.code yX1_has cX1_has 2 (some .boolean), Cond.fieldLink RX1 15 "CubeWorlds$World" "size" "I", Cond.methodLink RX2 61 yX1_hasBit, Cond.instanceMethod yX1_hasBit, Cond.selects RX1 yX1_hasBit yX1_hasBit, Cond.code yX1_hasBit cX1_hasBit 2 (some .boolean), Cond.fieldLink RX1 9 "CubeWorlds$World" "bits" "I", Cond.methodLink RX2 64 yX1_cell, Cond.instanceMethod yX1_cell, Cond.selects RX1 yX1_cell yX1_cell, Cond.code yX1_cell cX1_cell 3 (some .int), Cond.fieldLink RX1 18 "CubeWorlds$World" "cube" "[I", Cond.static yX2_cellIndex, Cond.code yX2_cellIndex cX2_cellIndex 2 (some .int)]
def wsX2_put_r2 : List Cond := [Cond.methodLink RX2 67 yX1_changeCell, Cond.instanceMethod yX1_changeCell, Cond.selects RX1 yX1_changeCell yX1_changeCell, Cond.code yX1_changeCell cX1_changeCell 4 none, Cond.methodLink RX1 36 yX1_fillTable, Cond.instanceMethod yX1_fillTable, Cond.selects RX1 yX1_fillTable yX1_fillTable, Cond.code yX1_fillTable cX1_fillTable 3 none, Cond.fieldLink RX1 22 "CubeWorlds$World" "table" "[I", Cond.methodLink RX1 39 yX1_tableIndex, Cond.static yX1_tableIndex, Cond.code yX1_tableIndex cX1_tableIndex 2 (some .int), Cond.methodLink RX1 42 yX1_sumOfCells, Cond.instanceMethod yX1_sumOfCells, Cond.selects RX1 yX1_sumOfCells yX1_sumOfCells, Cond.code yX1_sumOfCells cX1_sumOfCells 6 (some .int), Cond.methodLink RX1 33 yX1_cell]
def wsX2_put : List Cond := .code yX2_put cX2_put 7 (some .int) :: ((wsX2_put_r1 ++ wsX2_put_r2) ++ wsX20 ++ wsX10)
def wsX2_reduced : List Cond := .code yX2_reduced cX2_reduced 5 (some .int) :: ([.fieldLink RX2 181 "CubeWorlds" "FIELD_LESS" "[I"])
def wsX2_field_r1 : List Cond := [Cond.fieldLink RX2 25 "CubeWorlds" "cells" "[I", Cond.methodLink RX2 38 yX2_worldIn, Cond.instanceMethod yX2_worldIn, Cond.selects RX2 yX2_worldIn yX2_worldIn, Cond.initialized RX2, Cond.code yX2_worldIn cX2_worldIn 2 (some (.object "CubeWorlds$World")), Cond.fieldLink RX2 11 "CubeWorlds" "worlds" "[LCubeWorlds$World;", Cond.methodLink RX2 42 yX2_isSomeN, Cond.static yX2_isSomeN, Cond.code yX2_isSomeN cX2_isSomeN 1 (some .boolean), Cond.methodLink RX2 46 yX2_cellIndex, Cond.static yX2_cellIndex, Cond.code yX2_cellIndex cX2_cellIndex 2 (some .int), Cond.methodLink RX2 71 yX2_reduced, Cond.static yX2_reduced, Cond.code yX2_reduced cX2_reduced 5 (some .int), Cond.fieldLink RX2 181 "CubeWorlds" "FIELD_LESS" "[I", Cond.methodLink RX2 50 yX1_take, Cond.instanceMethod yX1_take, Cond.selects RX1 yX1_take yX1_take, Cond.initialized RX1, Cond.code yX1_take cX1_take 4 none, Cond.fieldLink RX1 9 "CubeWorlds$World" "bits" "I", Cond.fieldLink RX1 15 "CubeWorlds$World" "size" "I"]
def wsX2_field_r2 : List Cond := [Cond.fieldLink RX1 18 "CubeWorlds$World" "cube" "[I", Cond.methodLink RX1 36 yX1_fillTable, Cond.instanceMethod yX1_fillTable, Cond.selects RX1 yX1_fillTable yX1_fillTable, Cond.code yX1_fillTable cX1_fillTable 3 none, Cond.fieldLink RX1 22 "CubeWorlds$World" "table" "[I", Cond.methodLink RX1 39 yX1_tableIndex, Cond.static yX1_tableIndex, Cond.code yX1_tableIndex cX1_tableIndex 2 (some .int), Cond.methodLink RX1 42 yX1_sumOfCells, Cond.instanceMethod yX1_sumOfCells, Cond.selects RX1 yX1_sumOfCells yX1_sumOfCells, Cond.code yX1_sumOfCells cX1_sumOfCells 6 (some .int), Cond.methodLink RX1 33 yX1_cell, Cond.instanceMethod yX1_cell, Cond.selects RX1 yX1_cell yX1_cell, Cond.code yX1_cell cX1_cell 3 (some .int), Cond.methodLink RX2 54 yX1_size, Cond.instanceMethod yX1_size, Cond.selects RX1 yX1_size yX1_size, Cond.code yX1_size cX1_size 1 (some .int)]
def wsX2_field : List Cond := .code yX2_field cX2_field 6 (some .int) :: ((wsX2_field_r1 ++ wsX2_field_r2) ++ wsX20 ++ wsX10)
def wsX2_product : List Cond := .code yX2_product cX2_product 5 (some .int) :: ([.methodLink RX2 38 yX2_worldIn, .instanceMethod yX2_worldIn, .selects RX2 yX2_worldIn yX2_worldIn, .initialized RX2, .code yX2_worldIn cX2_worldIn 2 (some (.object "CubeWorlds$World")), .fieldLink RX2 11 "CubeWorlds" "worlds" "[LCubeWorlds$World;", .methodLink RX2 58 yX1_has, .instanceMethod yX1_has, .selects RX1 yX1_has yX1_has, .initialized RX1, .code yX1_has cX1_has 2 (some .boolean), .fieldLink RX1 15 "CubeWorlds$World" "size" "I", .methodLink RX2 74 yX1_times, .instanceMethod yX1_times, .selects RX1 yX1_times yX1_times, .code yX1_times cX1_times 3 (some .int), .fieldLink RX1 22 "CubeWorlds$World" "table" "[I", .methodLink RX1 39 yX1_tableIndex, .static yX1_tableIndex, .code yX1_tableIndex cX1_tableIndex 2 (some .int)] ++ wsX20 ++ wsX10)
def wsX2_oneIf : List Cond := .code yX2_oneIf cX2_oneIf 1 (some .int) :: ([])
def wsX2_divides_r1 : List Cond := [Cond.methodLink RX2 38 yX2_worldIn, Cond.instanceMethod yX2_worldIn, Cond.selects RX2 yX2_worldIn yX2_worldIn, Cond.initialized RX2, Cond.code yX2_worldIn cX2_worldIn 2 (some (.object "CubeWorlds$World")), Cond.fieldLink RX2 11 "CubeWorlds" "worlds" "[LCubeWorlds$World;", Cond.methodLink RX2 77 yX1_isWhole, Cond.instanceMethod yX1_isWhole, Cond.selects RX1 yX1_isWhole yX1_isWhole, Cond.initialized RX1, Cond.code yX1_isWhole cX1_isWhole 1 (some .boolean), Cond.methodLink RX1 45 yX1_leastBroken, Cond.instanceMethod yX1_leastBroken, Cond.selects RX1 yX1_leastBroken yX1_leastBroken, Cond.code yX1_leastBroken cX1_leastBroken 2 (some .int), Cond.fieldLink RX1 15 "CubeWorlds$World" "size" "I", Cond.methodLink RX1 49 yX1_leastPartner, Cond.instanceMethod yX1_leastPartner, Cond.selects RX1 yX1_leastPartner yX1_leastPartner, Cond.code yX1_leastPartner cX1_leastPartner 3 (some .int), Cond.methodLink RX1 53 yX1_times, Cond.instanceMethod yX1_times, Cond.selects RX1 yX1_times yX1_times, Cond.code yX1_times cX1_times 3 (some .int)]
def wsX2_divides_r2 : List Cond := [Cond.fieldLink RX1 22 "CubeWorlds$World" "table" "[I", Cond.methodLink RX1 39 yX1_tableIndex, Cond.static yX1_tableIndex, Cond.code yX1_tableIndex cX1_tableIndex 2 (some .int), Cond.methodLink RX2 81 yX2_oneIf, Cond.static yX2_oneIf, Cond.code yX2_oneIf cX2_oneIf 1 (some .int)]
def wsX2_divides : List Cond := .code yX2_divides cX2_divides 3 (some .int) :: ((wsX2_divides_r1 ++ wsX2_divides_r2) ++ wsX20 ++ wsX10)
def wsX2_broken_r1 : List Cond := [Cond.methodLink RX2 38 yX2_worldIn, Cond.instanceMethod yX2_worldIn, Cond.selects RX2 yX2_worldIn yX2_worldIn, Cond.initialized RX2, Cond.code yX2_worldIn cX2_worldIn 2 (some (.object "CubeWorlds$World")), Cond.fieldLink RX2 11 "CubeWorlds" "worlds" "[LCubeWorlds$World;", Cond.methodLink RX2 85 yX1_leastBroken, Cond.instanceMethod yX1_leastBroken, Cond.selects RX1 yX1_leastBroken yX1_leastBroken, Cond.initialized RX1, Cond.code yX1_leastBroken cX1_leastBroken 2 (some .int), Cond.fieldLink RX1 15 "CubeWorlds$World" "size" "I", Cond.methodLink RX1 49 yX1_leastPartner, Cond.instanceMethod yX1_leastPartner, Cond.selects RX1 yX1_leastPartner yX1_leastPartner, Cond.code yX1_leastPartner cX1_leastPartner 3 (some .int), Cond.methodLink RX1 53 yX1_times, Cond.instanceMethod yX1_times, Cond.selects RX1 yX1_times yX1_times, Cond.code yX1_times cX1_times 3 (some .int), Cond.fieldLink RX1 22 "CubeWorlds$World" "table" "[I", Cond.methodLink RX1 39 yX1_tableIndex, Cond.static yX1_tableIndex, Cond.code yX1_tableIndex cX1_tableIndex 2 (some .int)]
def wsX2_broken_r2 : List Cond := [Cond.methodLink RX2 88 yX1_leastPartner]
def wsX2_broken : List Cond := .code yX2_broken cX2_broken 5 (some .int) :: ((wsX2_broken_r1 ++ wsX2_broken_r2) ++ wsX20 ++ wsX10)
def wsX2_one : List Cond := .code yX2_one cX2_one 3 (some .int) :: ([.methodLink RX2 38 yX2_worldIn, .instanceMethod yX2_worldIn, .selects RX2 yX2_worldIn yX2_worldIn, .initialized RX2, .code yX2_worldIn cX2_worldIn 2 (some (.object "CubeWorlds$World")), .fieldLink RX2 11 "CubeWorlds" "worlds" "[LCubeWorlds$World;", .methodLink RX2 92 yX1_unit, .instanceMethod yX1_unit, .selects RX1 yX1_unit yX1_unit, .initialized RX1, .code yX1_unit cX1_unit 2 (some .int), .fieldLink RX1 15 "CubeWorlds$World" "size" "I", .methodLink RX1 56 yX1_isUnit, .instanceMethod yX1_isUnit, .selects RX1 yX1_isUnit yX1_isUnit, .code yX1_isUnit cX1_isUnit 3 (some .boolean), .methodLink RX1 53 yX1_times, .instanceMethod yX1_times, .selects RX1 yX1_times yX1_times, .code yX1_times cX1_times 3 (some .int), .fieldLink RX1 22 "CubeWorlds$World" "table" "[I", .methodLink RX1 39 yX1_tableIndex, .static yX1_tableIndex, .code yX1_tableIndex cX1_tableIndex 2 (some .int)] ++ wsX20 ++ wsX10)
def wsX2_quotient : List Cond := .code yX2_quotient cX2_quotient 6 (some .int) :: ([.methodLink RX2 38 yX2_worldIn, .instanceMethod yX2_worldIn, .selects RX2 yX2_worldIn yX2_worldIn, .initialized RX2, .code yX2_worldIn cX2_worldIn 2 (some (.object "CubeWorlds$World")), .fieldLink RX2 11 "CubeWorlds" "worlds" "[LCubeWorlds$World;", .methodLink RX2 58 yX1_has, .instanceMethod yX1_has, .selects RX1 yX1_has yX1_has, .initialized RX1, .code yX1_has cX1_has 2 (some .boolean), .fieldLink RX1 15 "CubeWorlds$World" "size" "I", .methodLink RX2 95 yX1_solve, .instanceMethod yX1_solve, .selects RX1 yX1_solve yX1_solve, .code yX1_solve cX1_solve 7 (some .int), .methodLink RX1 53 yX1_times, .instanceMethod yX1_times, .selects RX1 yX1_times yX1_times, .code yX1_times cX1_times 3 (some .int), .fieldLink RX1 22 "CubeWorlds$World" "table" "[I", .methodLink RX1 39 yX1_tableIndex, .static yX1_tableIndex, .code yX1_tableIndex cX1_tableIndex 2 (some .int)] ++ wsX20 ++ wsX10)
def wsX2_turnedBit : List Cond := .code yX2_turnedBit cX2_turnedBit 5 (some .int) :: ([.methodLink RX2 188 yX1_cubeBit, .instanceMethod yX1_cubeBit, .selects RX1 yX1_cubeBit yX1_cubeBit, .initialized RX1, .code yX1_cubeBit cX1_cubeBit 4 (some .int), .methodLink RX1 33 yX1_cell, .instanceMethod yX1_cell, .selects RX1 yX1_cell yX1_cell, .code yX1_cell cX1_cell 3 (some .int), .fieldLink RX1 18 "CubeWorlds$World" "cube" "[I", .static yX2_cellIndex, .initialized RX2, .code yX2_cellIndex cX2_cellIndex 2 (some .int)] ++ wsX10)
def wsX2_turnedCell : List Cond := .code yX2_turnedCell cX2_turnedCell 6 (some .int) :: ([.methodLink RX2 99 yX1_bits, .instanceMethod yX1_bits, .selects RX1 yX1_bits yX1_bits, .initialized RX1, .code yX1_bits cX1_bits 1 (some .int), .fieldLink RX1 9 "CubeWorlds$World" "bits" "I", .methodLink RX2 184 yX2_turnedBit, .static yX2_turnedBit, .initialized RX2, .code yX2_turnedBit cX2_turnedBit 5 (some .int), .methodLink RX2 188 yX1_cubeBit, .instanceMethod yX1_cubeBit, .selects RX1 yX1_cubeBit yX1_cubeBit, .code yX1_cubeBit cX1_cubeBit 4 (some .int), .methodLink RX1 33 yX1_cell, .instanceMethod yX1_cell, .selects RX1 yX1_cell yX1_cell, .code yX1_cell cX1_cell 3 (some .int), .fieldLink RX1 18 "CubeWorlds$World" "cube" "[I", .static yX2_cellIndex, .code yX2_cellIndex cX2_cellIndex 2 (some .int)] ++ wsX10)
def wsX2_turn_r1 : List Cond := [Cond.fieldLink RX2 25 "CubeWorlds" "cells" "[I", Cond.methodLink RX2 38 yX2_worldIn, Cond.instanceMethod yX2_worldIn, Cond.selects RX2 yX2_worldIn yX2_worldIn, Cond.initialized RX2, Cond.code yX2_worldIn cX2_worldIn 2 (some (.object "CubeWorlds$World")), Cond.fieldLink RX2 11 "CubeWorlds" "worlds" "[LCubeWorlds$World;", Cond.methodLink RX2 99 yX1_bits, Cond.instanceMethod yX1_bits, Cond.selects RX1 yX1_bits yX1_bits, Cond.initialized RX1, Cond.code yX1_bits cX1_bits 1 (some .int), Cond.fieldLink RX1 9 "CubeWorlds$World" "bits" "I", Cond.methodLink RX2 46 yX2_cellIndex, Cond.static yX2_cellIndex, Cond.code yX2_cellIndex cX2_cellIndex 2 (some .int), Cond.methodLink RX2 102 yX2_turnedCell, Cond.static yX2_turnedCell, Cond.code yX2_turnedCell cX2_turnedCell 6 (some .int), Cond.methodLink RX2 184 yX2_turnedBit, Cond.static yX2_turnedBit, Cond.code yX2_turnedBit cX2_turnedBit 5 (some .int), Cond.methodLink RX2 188 yX1_cubeBit, Cond.instanceMethod yX1_cubeBit]
def wsX2_turn_r2 : List Cond := [Cond.selects RX1 yX1_cubeBit yX1_cubeBit, Cond.code yX1_cubeBit cX1_cubeBit 4 (some .int), Cond.methodLink RX1 33 yX1_cell, Cond.instanceMethod yX1_cell, Cond.selects RX1 yX1_cell yX1_cell, Cond.code yX1_cell cX1_cell 3 (some .int), Cond.fieldLink RX1 18 "CubeWorlds$World" "cube" "[I", Cond.methodLink RX2 50 yX1_take, Cond.instanceMethod yX1_take, Cond.selects RX1 yX1_take yX1_take, Cond.code yX1_take cX1_take 4 none, Cond.fieldLink RX1 15 "CubeWorlds$World" "size" "I", Cond.methodLink RX1 36 yX1_fillTable, Cond.instanceMethod yX1_fillTable, Cond.selects RX1 yX1_fillTable yX1_fillTable, Cond.code yX1_fillTable cX1_fillTable 3 none, Cond.fieldLink RX1 22 "CubeWorlds$World" "table" "[I", Cond.methodLink RX1 39 yX1_tableIndex, Cond.static yX1_tableIndex, Cond.code yX1_tableIndex cX1_tableIndex 2 (some .int), Cond.methodLink RX1 42 yX1_sumOfCells, Cond.instanceMethod yX1_sumOfCells, Cond.selects RX1 yX1_sumOfCells yX1_sumOfCells, Cond.code yX1_sumOfCells cX1_sumOfCells 6 (some .int)]
def wsX2_turn : List Cond := .code yX2_turn cX2_turn 9 (some .int) :: ((wsX2_turn_r1 ++ wsX2_turn_r2) ++ wsX20 ++ wsX10)
def wsX2_isSomeWay : List Cond := .code yX2_isSomeWay cX2_isSomeWay 1 (some .boolean) :: ([])
def wsX2_joins_r1 : List Cond := [Cond.methodLink RX2 38 yX2_worldIn, Cond.instanceMethod yX2_worldIn, Cond.selects RX2 yX2_worldIn yX2_worldIn, Cond.initialized RX2, Cond.code yX2_worldIn cX2_worldIn 2 (some (.object "CubeWorlds$World")), Cond.fieldLink RX2 11 "CubeWorlds" "worlds" "[LCubeWorlds$World;", Cond.methodLink RX2 58 yX1_has, Cond.instanceMethod yX1_has, Cond.selects RX1 yX1_has yX1_has, Cond.initialized RX1, Cond.code yX1_has cX1_has 2 (some .boolean), Cond.fieldLink RX1 15 "CubeWorlds$World" "size" "I", Cond.methodLink RX2 106 yX2_isSomeWay, Cond.static yX2_isSomeWay, Cond.code yX2_isSomeWay cX2_isSomeWay 1 (some .boolean), Cond.methodLink RX2 109 yX1_joinsIn, Cond.instanceMethod yX1_joinsIn, Cond.selects RX1 yX1_joinsIn yX1_joinsIn, Cond.code yX1_joinsIn cX1_joinsIn 3 (some .boolean), Cond.methodLink RX1 60 yX1_commutes, Cond.instanceMethod yX1_commutes, Cond.selects RX1 yX1_commutes yX1_commutes, Cond.code yX1_commutes cX1_commutes 3 (some .boolean), Cond.fieldLink RX1 9 "CubeWorlds$World" "bits" "I"]
def wsX2_joins_r2 : List Cond := [Cond.methodLink RX1 53 yX1_times, Cond.instanceMethod yX1_times, Cond.selects RX1 yX1_times yX1_times, Cond.code yX1_times cX1_times 3 (some .int), Cond.fieldLink RX1 22 "CubeWorlds$World" "table" "[I", Cond.methodLink RX1 39 yX1_tableIndex, Cond.static yX1_tableIndex, Cond.code yX1_tableIndex cX1_tableIndex 2 (some .int), Cond.methodLink RX1 63 yX1_associates, Cond.instanceMethod yX1_associates, Cond.selects RX1 yX1_associates yX1_associates, Cond.code yX1_associates cX1_associates 5 (some .boolean), Cond.methodLink RX1 67 yX1_associatesWith, Cond.instanceMethod yX1_associatesWith, Cond.selects RX1 yX1_associatesWith yX1_associatesWith, Cond.code yX1_associatesWith cX1_associatesWith 5 (some .boolean), Cond.methodLink RX1 71 yX1_isOneProduct, Cond.instanceMethod yX1_isOneProduct, Cond.selects RX1 yX1_isOneProduct yX1_isOneProduct, Cond.code yX1_isOneProduct cX1_isOneProduct 4 (some .boolean), Cond.methodLink RX2 81 yX2_oneIf, Cond.static yX2_oneIf, Cond.code yX2_oneIf cX2_oneIf 1 (some .int)]
def wsX2_joins : List Cond := .code yX2_joins cX2_joins 5 (some .int) :: ((wsX2_joins_r1 ++ wsX2_joins_r2) ++ wsX20 ++ wsX10)
def wsX2_many_r1 : List Cond := [Cond.methodLink RX2 38 yX2_worldIn, Cond.instanceMethod yX2_worldIn, Cond.selects RX2 yX2_worldIn yX2_worldIn, Cond.initialized RX2, Cond.code yX2_worldIn cX2_worldIn 2 (some (.object "CubeWorlds$World")), Cond.fieldLink RX2 11 "CubeWorlds" "worlds" "[LCubeWorlds$World;", Cond.methodLink RX2 106 yX2_isSomeWay, Cond.static yX2_isSomeWay, Cond.code yX2_isSomeWay cX2_isSomeWay 1 (some .boolean), Cond.methodLink RX2 54 yX1_size, Cond.instanceMethod yX1_size, Cond.selects RX1 yX1_size yX1_size, Cond.initialized RX1, Cond.code yX1_size cX1_size 1 (some .int), Cond.fieldLink RX1 15 "CubeWorlds$World" "size" "I", Cond.methodLink RX2 109 yX1_joinsIn, Cond.instanceMethod yX1_joinsIn, Cond.selects RX1 yX1_joinsIn yX1_joinsIn, Cond.code yX1_joinsIn cX1_joinsIn 3 (some .boolean), Cond.methodLink RX1 60 yX1_commutes, Cond.instanceMethod yX1_commutes, Cond.selects RX1 yX1_commutes yX1_commutes, Cond.code yX1_commutes cX1_commutes 3 (some .boolean), Cond.fieldLink RX1 9 "CubeWorlds$World" "bits" "I"]
def wsX2_many_r2 : List Cond := [Cond.methodLink RX1 53 yX1_times, Cond.instanceMethod yX1_times, Cond.selects RX1 yX1_times yX1_times, Cond.code yX1_times cX1_times 3 (some .int), Cond.fieldLink RX1 22 "CubeWorlds$World" "table" "[I", Cond.methodLink RX1 39 yX1_tableIndex, Cond.static yX1_tableIndex, Cond.code yX1_tableIndex cX1_tableIndex 2 (some .int), Cond.methodLink RX1 63 yX1_associates, Cond.instanceMethod yX1_associates, Cond.selects RX1 yX1_associates yX1_associates, Cond.code yX1_associates cX1_associates 5 (some .boolean), Cond.methodLink RX1 67 yX1_associatesWith, Cond.instanceMethod yX1_associatesWith, Cond.selects RX1 yX1_associatesWith yX1_associatesWith, Cond.code yX1_associatesWith cX1_associatesWith 5 (some .boolean), Cond.methodLink RX1 71 yX1_isOneProduct, Cond.instanceMethod yX1_isOneProduct, Cond.selects RX1 yX1_isOneProduct yX1_isOneProduct, Cond.code yX1_isOneProduct cX1_isOneProduct 4 (some .boolean)]
def wsX2_many : List Cond := .code yX2_many cX2_many 6 (some .int) :: ((wsX2_many_r1 ++ wsX2_many_r2) ++ wsX20 ++ wsX10)
def wsX2_unlike : List Cond := .code yX2_unlike cX2_unlike 3 (some .int) :: ([.methodLink RX2 38 yX2_worldIn, .instanceMethod yX2_worldIn, .selects RX2 yX2_worldIn yX2_worldIn, .initialized RX2, .code yX2_worldIn cX2_worldIn 2 (some (.object "CubeWorlds$World")), .fieldLink RX2 11 "CubeWorlds" "worlds" "[LCubeWorlds$World;", .methodLink RX2 113 yX1_countUnlike, .instanceMethod yX1_countUnlike, .selects RX1 yX1_countUnlike yX1_countUnlike, .initialized RX1, .code yX1_countUnlike cX1_countUnlike 4 (some .int), .fieldLink RX1 15 "CubeWorlds$World" "size" "I", .methodLink RX1 53 yX1_times, .instanceMethod yX1_times, .selects RX1 yX1_times yX1_times, .code yX1_times cX1_times 3 (some .int), .fieldLink RX1 22 "CubeWorlds$World" "table" "[I", .methodLink RX1 39 yX1_tableIndex, .static yX1_tableIndex, .code yX1_tableIndex cX1_tableIndex 2 (some .int)] ++ wsX20 ++ wsX10)
def wsX2_mapAt : List Cond := .code yX2_mapAt cX2_mapAt 2 (some (.array .int)) :: ([.fieldLink RX2 17 "CubeWorlds" "maps" "[[I"] ++ wsX20)
def wsX2_isMapNumber : List Cond := .code yX2_isMapNumber cX2_isMapNumber 1 (some .boolean) :: ([])
def wsX2_map : List Cond := .code yX2_map cX2_map 6 (some .int) :: ([.methodLink RX2 116 yX2_mapAt, .instanceMethod yX2_mapAt, .selects RX2 yX2_mapAt yX2_mapAt, .initialized RX2, .code yX2_mapAt cX2_mapAt 2 (some (.array .int)), .fieldLink RX2 17 "CubeWorlds" "maps" "[[I", .methodLink RX2 120 yX2_isMapNumber, .static yX2_isMapNumber, .code yX2_isMapNumber cX2_isMapNumber 1 (some .boolean)] ++ wsX20)
def wsX2_sumOf : List Cond := .code yX2_sumOf cX2_sumOf 4 (some .int) :: ([])
def wsX2_gives : List Cond := .code yX2_gives cX2_gives 4 (some .int) :: ([.methodLink RX2 116 yX2_mapAt, .instanceMethod yX2_mapAt, .selects RX2 yX2_mapAt yX2_mapAt, .initialized RX2, .code yX2_mapAt cX2_mapAt 2 (some (.array .int)), .fieldLink RX2 17 "CubeWorlds" "maps" "[[I", .methodLink RX2 120 yX2_isMapNumber, .static yX2_isMapNumber, .code yX2_isMapNumber cX2_isMapNumber 1 (some .boolean), .methodLink RX2 123 yX2_sumOf, .static yX2_sumOf, .code yX2_sumOf cX2_sumOf 4 (some .int)] ++ wsX20)
def wsX2_isFit : List Cond := .code yX2_isFit cX2_isFit 6 (some .boolean) :: ([.methodLink RX2 123 yX2_sumOf, .static yX2_sumOf, .initialized RX2, .code yX2_sumOf cX2_sumOf 4 (some .int)])
def wsX2_fits : List Cond := .code yX2_fits cX2_fits 4 (some .int) :: ([.methodLink RX2 116 yX2_mapAt, .instanceMethod yX2_mapAt, .selects RX2 yX2_mapAt yX2_mapAt, .initialized RX2, .code yX2_mapAt cX2_mapAt 2 (some (.array .int)), .fieldLink RX2 17 "CubeWorlds" "maps" "[[I", .methodLink RX2 42 yX2_isSomeN, .static yX2_isSomeN, .code yX2_isSomeN cX2_isSomeN 1 (some .boolean), .methodLink RX2 127 yX2_isFit, .static yX2_isFit, .code yX2_isFit cX2_isFit 6 (some .boolean), .methodLink RX2 123 yX2_sumOf, .static yX2_sumOf, .code yX2_sumOf cX2_sumOf 4 (some .int), .methodLink RX2 81 yX2_oneIf, .static yX2_oneIf, .code yX2_oneIf cX2_oneIf 1 (some .int)] ++ wsX20)
def wsX2_allMapsFit : List Cond := .code yX2_allMapsFit cX2_allMapsFit 3 (some .boolean) :: ([.fieldLink RX2 17 "CubeWorlds" "maps" "[[I", .methodLink RX2 127 yX2_isFit, .static yX2_isFit, .initialized RX2, .code yX2_isFit cX2_isFit 6 (some .boolean), .methodLink RX2 123 yX2_sumOf, .static yX2_sumOf, .code yX2_sumOf cX2_sumOf 4 (some .int)] ++ wsX20)
def wsX2_mapsCarry : List Cond := .code yX2_mapsCarry cX2_mapsCarry 6 (some .boolean) :: ([.fieldLink RX2 17 "CubeWorlds" "maps" "[[I", .methodLink RX2 99 yX1_bits, .instanceMethod yX1_bits, .selects RX1 yX1_bits yX1_bits, .initialized RX1, .code yX1_bits cX1_bits 1 (some .int), .fieldLink RX1 9 "CubeWorlds$World" "bits" "I", .methodLink RX2 123 yX2_sumOf, .static yX2_sumOf, .initialized RX2, .code yX2_sumOf cX2_sumOf 4 (some .int), .methodLink RX2 74 yX1_times, .instanceMethod yX1_times, .selects RX1 yX1_times yX1_times, .code yX1_times cX1_times 3 (some .int), .fieldLink RX1 22 "CubeWorlds$World" "table" "[I", .methodLink RX1 39 yX1_tableIndex, .static yX1_tableIndex, .code yX1_tableIndex cX1_tableIndex 2 (some .int)] ++ wsX20 ++ wsX10)
def wsX2_alike_r1 : List Cond := [Cond.methodLink RX2 38 yX2_worldIn, Cond.instanceMethod yX2_worldIn, Cond.selects RX2 yX2_worldIn yX2_worldIn, Cond.initialized RX2, Cond.code yX2_worldIn cX2_worldIn 2 (some (.object "CubeWorlds$World")), Cond.fieldLink RX2 11 "CubeWorlds" "worlds" "[LCubeWorlds$World;", Cond.methodLink RX2 99 yX1_bits, Cond.instanceMethod yX1_bits, Cond.selects RX1 yX1_bits yX1_bits, Cond.initialized RX1, Cond.code yX1_bits cX1_bits 1 (some .int), Cond.fieldLink RX1 9 "CubeWorlds$World" "bits" "I", Cond.methodLink RX2 131 yX2_allMapsFit, Cond.instanceMethod yX2_allMapsFit, Cond.selects RX2 yX2_allMapsFit yX2_allMapsFit, Cond.code yX2_allMapsFit cX2_allMapsFit 3 (some .boolean), Cond.fieldLink RX2 17 "CubeWorlds" "maps" "[[I", Cond.methodLink RX2 127 yX2_isFit, Cond.static yX2_isFit, Cond.code yX2_isFit cX2_isFit 6 (some .boolean), Cond.methodLink RX2 123 yX2_sumOf, Cond.static yX2_sumOf, Cond.code yX2_sumOf cX2_sumOf 4 (some .int), Cond.methodLink RX2 134 yX2_mapsCarry]
def wsX2_alike_r2 : List Cond := [Cond.instanceMethod yX2_mapsCarry, Cond.selects RX2 yX2_mapsCarry yX2_mapsCarry, Cond.code yX2_mapsCarry cX2_mapsCarry 6 (some .boolean), Cond.methodLink RX2 74 yX1_times, Cond.instanceMethod yX1_times, Cond.selects RX1 yX1_times yX1_times, Cond.code yX1_times cX1_times 3 (some .int), Cond.fieldLink RX1 22 "CubeWorlds$World" "table" "[I", Cond.methodLink RX1 39 yX1_tableIndex, Cond.static yX1_tableIndex, Cond.code yX1_tableIndex cX1_tableIndex 2 (some .int), Cond.methodLink RX2 81 yX2_oneIf, Cond.static yX2_oneIf, Cond.code yX2_oneIf cX2_oneIf 1 (some .int)]
def wsX2_alike : List Cond := .code yX2_alike cX2_alike 5 (some .int) :: ((wsX2_alike_r1 ++ wsX2_alike_r2) ++ wsX20 ++ wsX10)
def wsX2_sourceOf : List Cond := .code yX2_sourceOf cX2_sourceOf 4 (some .int) :: ([.methodLink RX2 123 yX2_sumOf, .static yX2_sumOf, .initialized RX2, .code yX2_sumOf cX2_sumOf 4 (some .int)])
def wsX2_carry_r1 : List Cond := [Cond.fieldLink RX2 17 "CubeWorlds" "maps" "[[I", Cond.fieldLink RX2 25 "CubeWorlds" "cells" "[I", Cond.methodLink RX2 38 yX2_worldIn, Cond.instanceMethod yX2_worldIn, Cond.selects RX2 yX2_worldIn yX2_worldIn, Cond.initialized RX2, Cond.code yX2_worldIn cX2_worldIn 2 (some (.object "CubeWorlds$World")), Cond.fieldLink RX2 11 "CubeWorlds" "worlds" "[LCubeWorlds$World;", Cond.methodLink RX2 99 yX1_bits, Cond.instanceMethod yX1_bits, Cond.selects RX1 yX1_bits yX1_bits, Cond.initialized RX1, Cond.code yX1_bits cX1_bits 1 (some .int), Cond.fieldLink RX1 9 "CubeWorlds$World" "bits" "I", Cond.methodLink RX2 131 yX2_allMapsFit, Cond.instanceMethod yX2_allMapsFit, Cond.selects RX2 yX2_allMapsFit yX2_allMapsFit, Cond.code yX2_allMapsFit cX2_allMapsFit 3 (some .boolean), Cond.methodLink RX2 127 yX2_isFit, Cond.static yX2_isFit, Cond.code yX2_isFit cX2_isFit 6 (some .boolean), Cond.methodLink RX2 123 yX2_sumOf, Cond.static yX2_sumOf, Cond.code yX2_sumOf cX2_sumOf 4 (some .int)]
def wsX2_carry_r2 : List Cond := [Cond.methodLink RX2 138 yX2_sourceOf, Cond.static yX2_sourceOf, Cond.code yX2_sourceOf cX2_sourceOf 4 (some .int), Cond.methodLink RX2 46 yX2_cellIndex, Cond.static yX2_cellIndex, Cond.code yX2_cellIndex cX2_cellIndex 2 (some .int), Cond.methodLink RX2 74 yX1_times, Cond.instanceMethod yX1_times, Cond.selects RX1 yX1_times yX1_times, Cond.code yX1_times cX1_times 3 (some .int), Cond.fieldLink RX1 22 "CubeWorlds$World" "table" "[I", Cond.methodLink RX1 39 yX1_tableIndex, Cond.static yX1_tableIndex, Cond.code yX1_tableIndex cX1_tableIndex 2 (some .int), Cond.methodLink RX2 50 yX1_take, Cond.instanceMethod yX1_take, Cond.selects RX1 yX1_take yX1_take, Cond.code yX1_take cX1_take 4 none, Cond.fieldLink RX1 15 "CubeWorlds$World" "size" "I", Cond.fieldLink RX1 18 "CubeWorlds$World" "cube" "[I", Cond.methodLink RX1 36 yX1_fillTable, Cond.instanceMethod yX1_fillTable, Cond.selects RX1 yX1_fillTable yX1_fillTable, Cond.code yX1_fillTable cX1_fillTable 3 none]
def wsX2_carry_r3 : List Cond := [Cond.methodLink RX1 42 yX1_sumOfCells, Cond.instanceMethod yX1_sumOfCells, Cond.selects RX1 yX1_sumOfCells yX1_sumOfCells, Cond.code yX1_sumOfCells cX1_sumOfCells 6 (some .int), Cond.methodLink RX1 33 yX1_cell, Cond.instanceMethod yX1_cell, Cond.selects RX1 yX1_cell yX1_cell, Cond.code yX1_cell cX1_cell 3 (some .int)]
def wsX2_carry : List Cond := .code yX2_carry cX2_carry 10 (some .int) :: ((wsX2_carry_r1 ++ (wsX2_carry_r2 ++ wsX2_carry_r3)) ++ wsX20 ++ wsX10)
def wsX2_readRow : List Cond := .code yX2_readRow cX2_readRow 4 none :: ([])
def wsX2_agrees : List Cond := .code yX2_agrees cX2_agrees 6 (some .boolean) :: ([.fieldLink RX2 29 "CubeWorlds" "tryA" "[I", .fieldLink RX2 32 "CubeWorlds" "tryC" "[I", .methodLink RX2 99 yX1_bits, .instanceMethod yX1_bits, .selects RX1 yX1_bits yX1_bits, .initialized RX1, .code yX1_bits cX1_bits 1 (some .int), .fieldLink RX1 9 "CubeWorlds$World" "bits" "I", .methodLink RX2 74 yX1_times, .instanceMethod yX1_times, .selects RX1 yX1_times yX1_times, .code yX1_times cX1_times 3 (some .int), .fieldLink RX1 22 "CubeWorlds$World" "table" "[I", .methodLink RX1 39 yX1_tableIndex, .static yX1_tableIndex, .code yX1_tableIndex cX1_tableIndex 2 (some .int), .methodLink RX2 123 yX2_sumOf, .static yX2_sumOf, .initialized RX2, .code yX2_sumOf cX2_sumOf 4 (some .int)] ++ wsX20 ++ wsX10)
def wsX2_leavesWay_r1 : List Cond := [Cond.fieldLink RX2 32 "CubeWorlds" "tryC" "[I", Cond.fieldLink RX2 35 "CubeWorlds" "unwound" "[I", Cond.fieldLink RX2 29 "CubeWorlds" "tryA" "[I", Cond.methodLink RX2 99 yX1_bits, Cond.instanceMethod yX1_bits, Cond.selects RX1 yX1_bits yX1_bits, Cond.initialized RX1, Cond.code yX1_bits cX1_bits 1 (some .int), Cond.fieldLink RX1 9 "CubeWorlds$World" "bits" "I", Cond.methodLink RX2 123 yX2_sumOf, Cond.static yX2_sumOf, Cond.initialized RX2, Cond.code yX2_sumOf cX2_sumOf 4 (some .int), Cond.methodLink RX2 74 yX1_times, Cond.instanceMethod yX1_times, Cond.selects RX1 yX1_times yX1_times, Cond.code yX1_times cX1_times 3 (some .int), Cond.fieldLink RX1 22 "CubeWorlds$World" "table" "[I", Cond.methodLink RX1 39 yX1_tableIndex, Cond.static yX1_tableIndex, Cond.code yX1_tableIndex cX1_tableIndex 2 (some .int), Cond.methodLink RX2 95 yX1_solve, Cond.instanceMethod yX1_solve, Cond.selects RX1 yX1_solve yX1_solve]
def wsX2_leavesWay_r2 : List Cond := [Cond.code yX1_solve cX1_solve 7 (some .int), Cond.fieldLink RX1 15 "CubeWorlds$World" "size" "I", Cond.methodLink RX1 53 yX1_times, Cond.methodLink RX2 200 yX2_agrees, Cond.instanceMethod yX2_agrees, Cond.selects RX2 yX2_agrees yX2_agrees, Cond.code yX2_agrees cX2_agrees 6 (some .boolean)]
def wsX2_leavesWay : List Cond := .code yX2_leavesWay cX2_leavesWay 7 (some .boolean) :: ((wsX2_leavesWay_r1 ++ wsX2_leavesWay_r2) ++ wsX20 ++ wsX10)
def wsX2_countWays_r1 : List Cond := [Cond.fieldLink RX2 35 "CubeWorlds" "unwound" "[I", Cond.fieldLink RX2 29 "CubeWorlds" "tryA" "[I", Cond.methodLink RX2 99 yX1_bits, Cond.instanceMethod yX1_bits, Cond.selects RX1 yX1_bits yX1_bits, Cond.initialized RX1, Cond.code yX1_bits cX1_bits 1 (some .int), Cond.fieldLink RX1 9 "CubeWorlds$World" "bits" "I", Cond.methodLink RX2 95 yX1_solve, Cond.instanceMethod yX1_solve, Cond.selects RX1 yX1_solve yX1_solve, Cond.code yX1_solve cX1_solve 7 (some .int), Cond.fieldLink RX1 15 "CubeWorlds$World" "size" "I", Cond.methodLink RX1 53 yX1_times, Cond.instanceMethod yX1_times, Cond.selects RX1 yX1_times yX1_times, Cond.code yX1_times cX1_times 3 (some .int), Cond.fieldLink RX1 22 "CubeWorlds$World" "table" "[I", Cond.methodLink RX1 39 yX1_tableIndex, Cond.static yX1_tableIndex, Cond.code yX1_tableIndex cX1_tableIndex 2 (some .int), Cond.methodLink RX2 192 yX2_readRow, Cond.static yX2_readRow, Cond.initialized RX2]
def wsX2_countWays_r2 : List Cond := [Cond.code yX2_readRow cX2_readRow 4 none, Cond.methodLink RX2 127 yX2_isFit, Cond.static yX2_isFit, Cond.code yX2_isFit cX2_isFit 6 (some .boolean), Cond.methodLink RX2 123 yX2_sumOf, Cond.static yX2_sumOf, Cond.code yX2_sumOf cX2_sumOf 4 (some .int), Cond.methodLink RX2 54 yX1_size, Cond.instanceMethod yX1_size, Cond.selects RX1 yX1_size yX1_size, Cond.code yX1_size cX1_size 1 (some .int), Cond.methodLink RX2 196 yX2_leavesWay, Cond.instanceMethod yX2_leavesWay, Cond.selects RX2 yX2_leavesWay yX2_leavesWay, Cond.code yX2_leavesWay cX2_leavesWay 7 (some .boolean), Cond.fieldLink RX2 32 "CubeWorlds" "tryC" "[I", Cond.methodLink RX2 74 yX1_times, Cond.methodLink RX2 200 yX2_agrees, Cond.instanceMethod yX2_agrees, Cond.selects RX2 yX2_agrees yX2_agrees, Cond.code yX2_agrees cX2_agrees 6 (some .boolean)]
def wsX2_countWays : List Cond := .code yX2_countWays cX2_countWays 7 (some .int) :: ((wsX2_countWays_r1 ++ wsX2_countWays_r2) ++ wsX20 ++ wsX10)
def wsX2_ways_r1 : List Cond := [Cond.methodLink RX2 38 yX2_worldIn, Cond.instanceMethod yX2_worldIn, Cond.selects RX2 yX2_worldIn yX2_worldIn, Cond.initialized RX2, Cond.code yX2_worldIn cX2_worldIn 2 (some (.object "CubeWorlds$World")), Cond.fieldLink RX2 11 "CubeWorlds" "worlds" "[LCubeWorlds$World;", Cond.methodLink RX2 99 yX1_bits, Cond.instanceMethod yX1_bits, Cond.selects RX1 yX1_bits yX1_bits, Cond.initialized RX1, Cond.code yX1_bits cX1_bits 1 (some .int), Cond.fieldLink RX1 9 "CubeWorlds$World" "bits" "I", Cond.methodLink RX2 77 yX1_isWhole, Cond.instanceMethod yX1_isWhole, Cond.selects RX1 yX1_isWhole yX1_isWhole, Cond.code yX1_isWhole cX1_isWhole 1 (some .boolean), Cond.methodLink RX1 45 yX1_leastBroken, Cond.instanceMethod yX1_leastBroken, Cond.selects RX1 yX1_leastBroken yX1_leastBroken, Cond.code yX1_leastBroken cX1_leastBroken 2 (some .int), Cond.fieldLink RX1 15 "CubeWorlds$World" "size" "I", Cond.methodLink RX1 49 yX1_leastPartner, Cond.instanceMethod yX1_leastPartner, Cond.selects RX1 yX1_leastPartner yX1_leastPartner]
def wsX2_ways_r2 : List Cond := [Cond.code yX1_leastPartner cX1_leastPartner 3 (some .int), Cond.methodLink RX1 53 yX1_times, Cond.instanceMethod yX1_times, Cond.selects RX1 yX1_times yX1_times, Cond.code yX1_times cX1_times 3 (some .int), Cond.fieldLink RX1 22 "CubeWorlds$World" "table" "[I", Cond.methodLink RX1 39 yX1_tableIndex, Cond.static yX1_tableIndex, Cond.code yX1_tableIndex cX1_tableIndex 2 (some .int), Cond.methodLink RX2 142 yX2_countWays, Cond.instanceMethod yX2_countWays, Cond.selects RX2 yX2_countWays yX2_countWays, Cond.code yX2_countWays cX2_countWays 7 (some .int), Cond.fieldLink RX2 35 "CubeWorlds" "unwound" "[I", Cond.fieldLink RX2 29 "CubeWorlds" "tryA" "[I", Cond.methodLink RX2 95 yX1_solve, Cond.instanceMethod yX1_solve, Cond.selects RX1 yX1_solve yX1_solve, Cond.code yX1_solve cX1_solve 7 (some .int), Cond.methodLink RX2 192 yX2_readRow, Cond.static yX2_readRow, Cond.code yX2_readRow cX2_readRow 4 none, Cond.methodLink RX2 127 yX2_isFit, Cond.static yX2_isFit]
def wsX2_ways_r3 : List Cond := [Cond.code yX2_isFit cX2_isFit 6 (some .boolean), Cond.methodLink RX2 123 yX2_sumOf, Cond.static yX2_sumOf, Cond.code yX2_sumOf cX2_sumOf 4 (some .int), Cond.methodLink RX2 54 yX1_size, Cond.instanceMethod yX1_size, Cond.selects RX1 yX1_size yX1_size, Cond.code yX1_size cX1_size 1 (some .int), Cond.methodLink RX2 196 yX2_leavesWay, Cond.instanceMethod yX2_leavesWay, Cond.selects RX2 yX2_leavesWay yX2_leavesWay, Cond.code yX2_leavesWay cX2_leavesWay 7 (some .boolean), Cond.fieldLink RX2 32 "CubeWorlds" "tryC" "[I", Cond.methodLink RX2 74 yX1_times, Cond.methodLink RX2 200 yX2_agrees, Cond.instanceMethod yX2_agrees, Cond.selects RX2 yX2_agrees yX2_agrees, Cond.code yX2_agrees cX2_agrees 6 (some .boolean)]
def wsX2_ways : List Cond := .code yX2_ways cX2_ways 5 (some .int) :: ((wsX2_ways_r1 ++ (wsX2_ways_r2 ++ wsX2_ways_r3)) ++ wsX20 ++ wsX10)
def wsX2_on_r1 : List Cond := [Cond.methodLink RX2 38 yX2_worldIn, Cond.instanceMethod yX2_worldIn, Cond.selects RX2 yX2_worldIn yX2_worldIn, Cond.initialized RX2, Cond.code yX2_worldIn cX2_worldIn 2 (some (.object "CubeWorlds$World")), Cond.fieldLink RX2 11 "CubeWorlds" "worlds" "[LCubeWorlds$World;", Cond.methodLink RX2 146 yX0_has, Cond.static yX0_has, Cond.initialized RX0, Cond.code yX0_has cX0_has 2 (some .boolean), Cond.methodLink RX0 9 yX0_lastOf, Cond.static yX0_lastOf, Cond.code yX0_lastOf cX0_lastOf 1 (some .int), Cond.methodLink RX0 21 yX0_insideOf, Cond.static yX0_insideOf, Cond.code yX0_insideOf cX0_insideOf 1 (some .int), Cond.methodLink RX0 15 yX1_size, Cond.instanceMethod yX1_size, Cond.selects RX1 yX1_size yX1_size, Cond.initialized RX1, Cond.code yX1_size cX1_size 1 (some .int), Cond.fieldLink RX1 15 "CubeWorlds$World" "size" "I", Cond.methodLink RX2 151 yX0_lies, Cond.static yX0_lies]
def wsX2_on_r2 : List Cond := [Cond.code yX0_lies cX0_lies 6 (some .boolean), Cond.methodLink RX0 27 yX0_highPart, Cond.static yX0_highPart, Cond.code yX0_highPart cX0_highPart 2 (some .int), Cond.methodLink RX0 24 yX1_bits, Cond.instanceMethod yX1_bits, Cond.selects RX1 yX1_bits yX1_bits, Cond.code yX1_bits cX1_bits 1 (some .int), Cond.fieldLink RX1 9 "CubeWorlds$World" "bits" "I", Cond.methodLink RX0 31 yX1_times, Cond.instanceMethod yX1_times, Cond.selects RX1 yX1_times yX1_times, Cond.code yX1_times cX1_times 3 (some .int), Cond.fieldLink RX1 22 "CubeWorlds$World" "table" "[I", Cond.methodLink RX1 39 yX1_tableIndex, Cond.static yX1_tableIndex, Cond.code yX1_tableIndex cX1_tableIndex 2 (some .int), Cond.methodLink RX0 35 yX0_lowPart, Cond.static yX0_lowPart, Cond.code yX0_lowPart cX0_lowPart 2 (some .int), Cond.methodLink RX2 81 yX2_oneIf, Cond.static yX2_oneIf, Cond.code yX2_oneIf cX2_oneIf 1 (some .int)]
def wsX2_on : List Cond := .code yX2_on cX2_on 5 (some .int) :: ((wsX2_on_r1 ++ wsX2_on_r2) ++ wsX20 ++ wsX10)
def wsX2_join_r1 : List Cond := [Cond.methodLink RX2 155 Lib.Math.min.name, Cond.static Lib.Math.min.name, Cond.initialized "java/lang/Math", Cond.code Lib.Math.min.name Lib.Math.min.code 2 (some .int), Cond.methodLink RX2 160 Lib.Math.max.name, Cond.static Lib.Math.max.name, Cond.code Lib.Math.max.name Lib.Math.max.code 2 (some .int), Cond.methodLink RX2 38 yX2_worldIn, Cond.instanceMethod yX2_worldIn, Cond.selects RX2 yX2_worldIn yX2_worldIn, Cond.initialized RX2, Cond.code yX2_worldIn cX2_worldIn 2 (some (.object "CubeWorlds$World")), Cond.fieldLink RX2 11 "CubeWorlds" "worlds" "[LCubeWorlds$World;", Cond.methodLink RX2 146 yX0_has, Cond.static yX0_has, Cond.initialized RX0, Cond.code yX0_has cX0_has 2 (some .boolean), Cond.methodLink RX0 9 yX0_lastOf, Cond.static yX0_lastOf, Cond.code yX0_lastOf cX0_lastOf 1 (some .int), Cond.methodLink RX0 21 yX0_insideOf, Cond.static yX0_insideOf, Cond.code yX0_insideOf cX0_insideOf 1 (some .int), Cond.methodLink RX0 15 yX1_size]
def wsX2_join_r2 : List Cond := [Cond.instanceMethod yX1_size, Cond.selects RX1 yX1_size yX1_size, Cond.initialized RX1, Cond.code yX1_size cX1_size 1 (some .int), Cond.fieldLink RX1 15 "CubeWorlds$World" "size" "I", Cond.methodLink RX2 163 yX0_lineThrough, Cond.static yX0_lineThrough, Cond.code yX0_lineThrough cX0_lineThrough 8 (some .int), Cond.methodLink RX0 27 yX0_highPart, Cond.static yX0_highPart, Cond.code yX0_highPart cX0_highPart 2 (some .int), Cond.methodLink RX0 24 yX1_bits, Cond.instanceMethod yX1_bits, Cond.selects RX1 yX1_bits yX1_bits, Cond.code yX1_bits cX1_bits 1 (some .int), Cond.fieldLink RX1 9 "CubeWorlds$World" "bits" "I", Cond.methodLink RX0 35 yX0_lowPart, Cond.static yX0_lowPart, Cond.code yX0_lowPart cX0_lowPart 2 (some .int), Cond.methodLink RX0 38 yX1_solve, Cond.instanceMethod yX1_solve, Cond.selects RX1 yX1_solve yX1_solve, Cond.code yX1_solve cX1_solve 7 (some .int), Cond.methodLink RX1 53 yX1_times]
def wsX2_join_r3 : List Cond := [Cond.instanceMethod yX1_times, Cond.selects RX1 yX1_times yX1_times, Cond.code yX1_times cX1_times 3 (some .int), Cond.fieldLink RX1 22 "CubeWorlds$World" "table" "[I", Cond.methodLink RX1 39 yX1_tableIndex, Cond.static yX1_tableIndex, Cond.code yX1_tableIndex cX1_tableIndex 2 (some .int), Cond.methodLink RX0 31 yX1_times]
def wsX2_join : List Cond := .code yX2_join cX2_join 5 (some .int) :: ((wsX2_join_r1 ++ (wsX2_join_r2 ++ wsX2_join_r3)) ++ wsX20 ++ wsX10)
def wsX2_meet_r1 : List Cond := [Cond.methodLink RX2 155 Lib.Math.min.name, Cond.static Lib.Math.min.name, Cond.initialized "java/lang/Math", Cond.code Lib.Math.min.name Lib.Math.min.code 2 (some .int), Cond.methodLink RX2 160 Lib.Math.max.name, Cond.static Lib.Math.max.name, Cond.code Lib.Math.max.name Lib.Math.max.code 2 (some .int), Cond.methodLink RX2 38 yX2_worldIn, Cond.instanceMethod yX2_worldIn, Cond.selects RX2 yX2_worldIn yX2_worldIn, Cond.initialized RX2, Cond.code yX2_worldIn cX2_worldIn 2 (some (.object "CubeWorlds$World")), Cond.fieldLink RX2 11 "CubeWorlds" "worlds" "[LCubeWorlds$World;", Cond.methodLink RX2 146 yX0_has, Cond.static yX0_has, Cond.initialized RX0, Cond.code yX0_has cX0_has 2 (some .boolean), Cond.methodLink RX0 9 yX0_lastOf, Cond.static yX0_lastOf, Cond.code yX0_lastOf cX0_lastOf 1 (some .int), Cond.methodLink RX0 21 yX0_insideOf, Cond.static yX0_insideOf, Cond.code yX0_insideOf cX0_insideOf 1 (some .int), Cond.methodLink RX0 15 yX1_size]
def wsX2_meet_r2 : List Cond := [Cond.instanceMethod yX1_size, Cond.selects RX1 yX1_size yX1_size, Cond.initialized RX1, Cond.code yX1_size cX1_size 1 (some .int), Cond.fieldLink RX1 15 "CubeWorlds$World" "size" "I", Cond.methodLink RX2 167 yX0_pointOfBoth, Cond.static yX0_pointOfBoth, Cond.code yX0_pointOfBoth cX0_pointOfBoth 8 (some .int), Cond.methodLink RX0 27 yX0_highPart, Cond.static yX0_highPart, Cond.code yX0_highPart cX0_highPart 2 (some .int), Cond.methodLink RX0 24 yX1_bits, Cond.instanceMethod yX1_bits, Cond.selects RX1 yX1_bits yX1_bits, Cond.code yX1_bits cX1_bits 1 (some .int), Cond.fieldLink RX1 9 "CubeWorlds$World" "bits" "I", Cond.methodLink RX0 35 yX0_lowPart, Cond.static yX0_lowPart, Cond.code yX0_lowPart cX0_lowPart 2 (some .int), Cond.methodLink RX0 38 yX1_solve, Cond.instanceMethod yX1_solve, Cond.selects RX1 yX1_solve yX1_solve, Cond.code yX1_solve cX1_solve 7 (some .int), Cond.methodLink RX1 53 yX1_times]
def wsX2_meet_r3 : List Cond := [Cond.instanceMethod yX1_times, Cond.selects RX1 yX1_times yX1_times, Cond.code yX1_times cX1_times 3 (some .int), Cond.fieldLink RX1 22 "CubeWorlds$World" "table" "[I", Cond.methodLink RX1 39 yX1_tableIndex, Cond.static yX1_tableIndex, Cond.code yX1_tableIndex cX1_tableIndex 2 (some .int), Cond.methodLink RX0 31 yX1_times]
def wsX2_meet : List Cond := .code yX2_meet cX2_meet 5 (some .int) :: ((wsX2_meet_r1 ++ (wsX2_meet_r2 ++ wsX2_meet_r3)) ++ wsX20 ++ wsX10)
def wsX2_bad_r1 : List Cond := [Cond.methodLink RX2 38 yX2_worldIn, Cond.instanceMethod yX2_worldIn, Cond.selects RX2 yX2_worldIn yX2_worldIn, Cond.initialized RX2, Cond.code yX2_worldIn cX2_worldIn 2 (some (.object "CubeWorlds$World")), Cond.fieldLink RX2 11 "CubeWorlds" "worlds" "[LCubeWorlds$World;", Cond.methodLink RX2 170 yX0_countBadPairs, Cond.static yX0_countBadPairs, Cond.initialized RX0, Cond.code yX0_countBadPairs cX0_countBadPairs 3 (some .int), Cond.methodLink RX0 15 yX1_size, Cond.instanceMethod yX1_size, Cond.selects RX1 yX1_size yX1_size, Cond.initialized RX1, Cond.code yX1_size cX1_size 1 (some .int), Cond.fieldLink RX1 15 "CubeWorlds$World" "size" "I", Cond.methodLink RX0 42 yX1_leastPartner, Cond.instanceMethod yX1_leastPartner, Cond.selects RX1 yX1_leastPartner yX1_leastPartner, Cond.code yX1_leastPartner cX1_leastPartner 3 (some .int), Cond.methodLink RX1 53 yX1_times, Cond.instanceMethod yX1_times, Cond.selects RX1 yX1_times yX1_times, Cond.code yX1_times cX1_times 3 (some .int)]
def wsX2_bad_r2 : List Cond := [Cond.fieldLink RX1 22 "CubeWorlds$World" "table" "[I", Cond.methodLink RX1 39 yX1_tableIndex, Cond.static yX1_tableIndex, Cond.code yX1_tableIndex cX1_tableIndex 2 (some .int), Cond.methodLink RX0 21 yX0_insideOf, Cond.static yX0_insideOf, Cond.code yX0_insideOf cX0_insideOf 1 (some .int)]
def wsX2_bad : List Cond := .code yX2_bad cX2_bad 3 (some .int) :: ((wsX2_bad_r1 ++ wsX2_bad_r2) ++ wsX20 ++ wsX10)
def wsX2_rank_r1 : List Cond := [Cond.methodLink RX2 38 yX2_worldIn, Cond.instanceMethod yX2_worldIn, Cond.selects RX2 yX2_worldIn yX2_worldIn, Cond.initialized RX2, Cond.code yX2_worldIn cX2_worldIn 2 (some (.object "CubeWorlds$World")), Cond.fieldLink RX2 11 "CubeWorlds" "worlds" "[LCubeWorlds$World;", Cond.methodLink RX2 58 yX1_has, Cond.instanceMethod yX1_has, Cond.selects RX1 yX1_has yX1_has, Cond.initialized RX1, Cond.code yX1_has cX1_has 2 (some .boolean), Cond.fieldLink RX1 15 "CubeWorlds$World" "size" "I", Cond.methodLink RX2 174 yX1_rankOf, Cond.instanceMethod yX1_rankOf, Cond.selects RX1 yX1_rankOf yX1_rankOf, Cond.code yX1_rankOf cX1_rankOf 5 (some .int), Cond.fieldLink RX1 9 "CubeWorlds$World" "bits" "I", Cond.methodLink RX1 53 yX1_times, Cond.instanceMethod yX1_times, Cond.selects RX1 yX1_times yX1_times, Cond.code yX1_times cX1_times 3 (some .int), Cond.fieldLink RX1 22 "CubeWorlds$World" "table" "[I", Cond.methodLink RX1 39 yX1_tableIndex, Cond.static yX1_tableIndex]
def wsX2_rank_r2 : List Cond := [Cond.code yX1_tableIndex cX1_tableIndex 2 (some .int), Cond.methodLink RX1 75 yJ6_bitCount_0f7a4, Cond.static yJ6_bitCount_0f7a4, Cond.initialized RJ6, Cond.code yJ6_bitCount_0f7a4 cJ6_bitCount_0f7a4 1 (some .int), Cond.constant RJ6 265 (1431655765), Cond.constant RJ6 266 (858993459), Cond.constant RJ6 267 (252645135)]
def wsX2_rank : List Cond := .code yX2_rank cX2_rank 4 (some .int) :: ((wsX2_rank_r1 ++ wsX2_rank_r2) ++ wsX20 ++ wsX10)
def wsX2_ranks_r1 : List Cond := [Cond.methodLink RX2 38 yX2_worldIn, Cond.instanceMethod yX2_worldIn, Cond.selects RX2 yX2_worldIn yX2_worldIn, Cond.initialized RX2, Cond.code yX2_worldIn cX2_worldIn 2 (some (.object "CubeWorlds$World")), Cond.fieldLink RX2 11 "CubeWorlds" "worlds" "[LCubeWorlds$World;", Cond.methodLink RX2 54 yX1_size, Cond.instanceMethod yX1_size, Cond.selects RX1 yX1_size yX1_size, Cond.initialized RX1, Cond.code yX1_size cX1_size 1 (some .int), Cond.fieldLink RX1 15 "CubeWorlds$World" "size" "I", Cond.methodLink RX2 174 yX1_rankOf, Cond.instanceMethod yX1_rankOf, Cond.selects RX1 yX1_rankOf yX1_rankOf, Cond.code yX1_rankOf cX1_rankOf 5 (some .int), Cond.fieldLink RX1 9 "CubeWorlds$World" "bits" "I", Cond.methodLink RX1 53 yX1_times, Cond.instanceMethod yX1_times, Cond.selects RX1 yX1_times yX1_times, Cond.code yX1_times cX1_times 3 (some .int), Cond.fieldLink RX1 22 "CubeWorlds$World" "table" "[I", Cond.methodLink RX1 39 yX1_tableIndex, Cond.static yX1_tableIndex]
def wsX2_ranks_r2 : List Cond := [Cond.code yX1_tableIndex cX1_tableIndex 2 (some .int), Cond.methodLink RX1 75 yJ6_bitCount_0f7a4, Cond.static yJ6_bitCount_0f7a4, Cond.initialized RJ6, Cond.code yJ6_bitCount_0f7a4 cJ6_bitCount_0f7a4 1 (some .int), Cond.constant RJ6 265 (1431655765), Cond.constant RJ6 266 (858993459), Cond.constant RJ6 267 (252645135)]
def wsX2_ranks : List Cond := .code yX2_ranks cX2_ranks 6 (some .int) :: ((wsX2_ranks_r1 ++ wsX2_ranks_r2) ++ wsX20 ++ wsX10)
def wsX2_readCells : List Cond := .code yX2_readCells cX2_readCells 6 none :: ([.fieldLink RX2 25 "CubeWorlds" "cells" "[I", .methodLink RX2 46 yX2_cellIndex, .static yX2_cellIndex, .initialized RX2, .code yX2_cellIndex cX2_cellIndex 2 (some .int)] ++ wsX20)
def wsX2_cubes_r1 : List Cond := [Cond.fieldLink RX2 21 "CubeWorlds" "trial" "LCubeWorlds$World;", Cond.fieldLink RX2 25 "CubeWorlds" "cells" "[I", Cond.methodLink RX2 177 yX2_readCells, Cond.instanceMethod yX2_readCells, Cond.selects RX2 yX2_readCells yX2_readCells, Cond.initialized RX2, Cond.code yX2_readCells cX2_readCells 6 none, Cond.methodLink RX2 46 yX2_cellIndex, Cond.static yX2_cellIndex, Cond.code yX2_cellIndex cX2_cellIndex 2 (some .int), Cond.methodLink RX2 50 yX1_take, Cond.instanceMethod yX1_take, Cond.selects RX1 yX1_take yX1_take, Cond.initialized RX1, Cond.code yX1_take cX1_take 4 none, Cond.fieldLink RX1 9 "CubeWorlds$World" "bits" "I", Cond.fieldLink RX1 15 "CubeWorlds$World" "size" "I", Cond.fieldLink RX1 18 "CubeWorlds$World" "cube" "[I", Cond.methodLink RX1 36 yX1_fillTable, Cond.instanceMethod yX1_fillTable, Cond.selects RX1 yX1_fillTable yX1_fillTable, Cond.code yX1_fillTable cX1_fillTable 3 none, Cond.fieldLink RX1 22 "CubeWorlds$World" "table" "[I", Cond.methodLink RX1 39 yX1_tableIndex]
def wsX2_cubes_r2 : List Cond := [Cond.static yX1_tableIndex, Cond.code yX1_tableIndex cX1_tableIndex 2 (some .int), Cond.methodLink RX1 42 yX1_sumOfCells, Cond.instanceMethod yX1_sumOfCells, Cond.selects RX1 yX1_sumOfCells yX1_sumOfCells, Cond.code yX1_sumOfCells cX1_sumOfCells 6 (some .int), Cond.methodLink RX1 33 yX1_cell, Cond.instanceMethod yX1_cell, Cond.selects RX1 yX1_cell yX1_cell, Cond.code yX1_cell cX1_cell 3 (some .int), Cond.methodLink RX2 77 yX1_isWhole, Cond.instanceMethod yX1_isWhole, Cond.selects RX1 yX1_isWhole yX1_isWhole, Cond.code yX1_isWhole cX1_isWhole 1 (some .boolean), Cond.methodLink RX1 45 yX1_leastBroken, Cond.instanceMethod yX1_leastBroken, Cond.selects RX1 yX1_leastBroken yX1_leastBroken, Cond.code yX1_leastBroken cX1_leastBroken 2 (some .int), Cond.methodLink RX1 49 yX1_leastPartner, Cond.instanceMethod yX1_leastPartner, Cond.selects RX1 yX1_leastPartner yX1_leastPartner, Cond.code yX1_leastPartner cX1_leastPartner 3 (some .int), Cond.methodLink RX1 53 yX1_times, Cond.instanceMethod yX1_times]
def wsX2_cubes_r3 : List Cond := [Cond.selects RX1 yX1_times yX1_times, Cond.code yX1_times cX1_times 3 (some .int)]
def wsX2_cubes : List Cond := .code yX2_cubes cX2_cubes 5 (some .int) :: ((wsX2_cubes_r1 ++ (wsX2_cubes_r2 ++ wsX2_cubes_r3)) ++ wsX20 ++ wsX10)
def wsX3_init : List Cond := .code yX3_init cX3_init 2 none :: ([.methodLink RX3 1 objectInit, .instanceMethod objectInit, .code objectInit ⟨#[0xb1]⟩ 1 none, .arrayClass .int, .fieldLink RX3 7 "CubeWorldsModel" "size" "[I", .fieldLink RX3 13 "CubeWorldsModel" "cube" "[I", .fieldLink RX3 16 "CubeWorldsModel" "maps" "[I", .fieldLink RX3 19 "CubeWorldsModel" "table" "[I", .fieldLink RX3 22 "CubeWorldsModel" "first" "[I", .fieldLink RX3 25 "CubeWorldsModel" "second" "[I", .fieldLink RX3 28 "CubeWorldsModel" "third" "[I"] ++ wsX30)
def wsX3_in : List Cond := .code yX3_in cX3_in 3 (some .boolean) :: ([])
def wsX3_isSlot : List Cond := .code yX3_isSlot cX3_isSlot 1 (some .boolean) :: ([.methodLink RX3 31 yX3_in, .static yX3_in, .initialized RX3, .code yX3_in cX3_in 3 (some .boolean)])
def wsX3_numbers : List Cond := .code yX3_numbers cX3_numbers 2 (some .int) :: ([.fieldLink RX3 7 "CubeWorldsModel" "size" "[I"] ++ wsX30)
def wsX3_isNumber : List Cond := .code yX3_isNumber cX3_isNumber 3 (some .boolean) :: ([.methodLink RX3 35 yX3_numbers, .instanceMethod yX3_numbers, .selects RX3 yX3_numbers yX3_numbers, .initialized RX3, .code yX3_numbers cX3_numbers 2 (some .int), .fieldLink RX3 7 "CubeWorldsModel" "size" "[I", .methodLink RX3 31 yX3_in, .static yX3_in, .code yX3_in cX3_in 3 (some .boolean)] ++ wsX30)
def wsX3_clear : List Cond := .code yX3_clear cX3_clear 4 none :: ([.fieldLink RX3 7 "CubeWorldsModel" "size" "[I", .fieldLink RX3 13 "CubeWorldsModel" "cube" "[I"] ++ wsX30)
def wsX3_world : List Cond := .code yX3_world cX3_world 3 (some .int) :: ([.methodLink RX3 39 yX3_isSlot, .static yX3_isSlot, .initialized RX3, .code yX3_isSlot cX3_isSlot 1 (some .boolean), .methodLink RX3 31 yX3_in, .static yX3_in, .code yX3_in cX3_in 3 (some .boolean), .methodLink RX3 43 yX3_clear, .instanceMethod yX3_clear, .selects RX3 yX3_clear yX3_clear, .code yX3_clear cX3_clear 4 none, .fieldLink RX3 7 "CubeWorldsModel" "size" "[I", .fieldLink RX3 13 "CubeWorldsModel" "cube" "[I"] ++ wsX30)
def wsX3_put : List Cond := .code yX3_put cX3_put 7 (some .int) :: ([.fieldLink RX3 7 "CubeWorldsModel" "size" "[I", .fieldLink RX3 13 "CubeWorldsModel" "cube" "[I", .methodLink RX3 39 yX3_isSlot, .static yX3_isSlot, .initialized RX3, .code yX3_isSlot cX3_isSlot 1 (some .boolean), .methodLink RX3 31 yX3_in, .static yX3_in, .code yX3_in cX3_in 3 (some .boolean), .methodLink RX3 47 yX3_isNumber, .instanceMethod yX3_isNumber, .selects RX3 yX3_isNumber yX3_isNumber, .code yX3_isNumber cX3_isNumber 3 (some .boolean), .methodLink RX3 35 yX3_numbers, .instanceMethod yX3_numbers, .selects RX3 yX3_numbers yX3_numbers, .code yX3_numbers cX3_numbers 2 (some .int)] ++ wsX30)
def wsX3_field : List Cond := .code yX3_field cX3_field 7 (some .int) :: ([.fieldLink RX3 13 "CubeWorldsModel" "cube" "[I", .methodLink RX3 39 yX3_isSlot, .static yX3_isSlot, .initialized RX3, .code yX3_isSlot cX3_isSlot 1 (some .boolean), .methodLink RX3 31 yX3_in, .static yX3_in, .code yX3_in cX3_in 3 (some .boolean), .methodLink RX3 43 yX3_clear, .instanceMethod yX3_clear, .selects RX3 yX3_clear yX3_clear, .code yX3_clear cX3_clear 4 none, .fieldLink RX3 7 "CubeWorldsModel" "size" "[I"] ++ wsX30)
def wsX3_times : List Cond := .code yX3_times cX3_times 7 (some .int) :: ([.fieldLink RX3 7 "CubeWorldsModel" "size" "[I", .fieldLink RX3 13 "CubeWorldsModel" "cube" "[I"] ++ wsX30)
def wsX3_product : List Cond := .code yX3_product cX3_product 4 (some .int) :: ([.methodLink RX3 39 yX3_isSlot, .static yX3_isSlot, .initialized RX3, .code yX3_isSlot cX3_isSlot 1 (some .boolean), .methodLink RX3 31 yX3_in, .static yX3_in, .code yX3_in cX3_in 3 (some .boolean), .methodLink RX3 47 yX3_isNumber, .instanceMethod yX3_isNumber, .selects RX3 yX3_isNumber yX3_isNumber, .code yX3_isNumber cX3_isNumber 3 (some .boolean), .methodLink RX3 35 yX3_numbers, .instanceMethod yX3_numbers, .selects RX3 yX3_numbers yX3_numbers, .code yX3_numbers cX3_numbers 2 (some .int), .fieldLink RX3 7 "CubeWorldsModel" "size" "[I", .methodLink RX3 51 yX3_times, .instanceMethod yX3_times, .selects RX3 yX3_times yX3_times, .code yX3_times cX3_times 7 (some .int), .fieldLink RX3 13 "CubeWorldsModel" "cube" "[I"] ++ wsX30)
def wsX3_firstBroken : List Cond := .code yX3_firstBroken cX3_firstBroken 4 (some .int) :: ([.methodLink RX3 35 yX3_numbers, .instanceMethod yX3_numbers, .selects RX3 yX3_numbers yX3_numbers, .initialized RX3, .code yX3_numbers cX3_numbers 2 (some .int), .fieldLink RX3 7 "CubeWorldsModel" "size" "[I", .methodLink RX3 51 yX3_times, .instanceMethod yX3_times, .selects RX3 yX3_times yX3_times, .code yX3_times cX3_times 7 (some .int), .fieldLink RX3 13 "CubeWorldsModel" "cube" "[I"] ++ wsX30)
def wsX3_divides : List Cond := .code yX3_divides cX3_divides 2 (some .int) :: ([.methodLink RX3 39 yX3_isSlot, .static yX3_isSlot, .initialized RX3, .code yX3_isSlot cX3_isSlot 1 (some .boolean), .methodLink RX3 31 yX3_in, .static yX3_in, .code yX3_in cX3_in 3 (some .boolean), .methodLink RX3 55 yX3_firstBroken, .instanceMethod yX3_firstBroken, .selects RX3 yX3_firstBroken yX3_firstBroken, .code yX3_firstBroken cX3_firstBroken 4 (some .int), .methodLink RX3 35 yX3_numbers, .instanceMethod yX3_numbers, .selects RX3 yX3_numbers yX3_numbers, .code yX3_numbers cX3_numbers 2 (some .int), .fieldLink RX3 7 "CubeWorldsModel" "size" "[I", .methodLink RX3 51 yX3_times, .instanceMethod yX3_times, .selects RX3 yX3_times yX3_times, .code yX3_times cX3_times 7 (some .int), .fieldLink RX3 13 "CubeWorldsModel" "cube" "[I"] ++ wsX30)
def wsX3_broken : List Cond := .code yX3_broken cX3_broken 4 (some .int) :: ([.methodLink RX3 39 yX3_isSlot, .static yX3_isSlot, .initialized RX3, .code yX3_isSlot cX3_isSlot 1 (some .boolean), .methodLink RX3 31 yX3_in, .static yX3_in, .code yX3_in cX3_in 3 (some .boolean), .methodLink RX3 55 yX3_firstBroken, .instanceMethod yX3_firstBroken, .selects RX3 yX3_firstBroken yX3_firstBroken, .code yX3_firstBroken cX3_firstBroken 4 (some .int), .methodLink RX3 35 yX3_numbers, .instanceMethod yX3_numbers, .selects RX3 yX3_numbers yX3_numbers, .code yX3_numbers cX3_numbers 2 (some .int), .fieldLink RX3 7 "CubeWorldsModel" "size" "[I", .methodLink RX3 51 yX3_times, .instanceMethod yX3_times, .selects RX3 yX3_times yX3_times, .code yX3_times cX3_times 7 (some .int), .fieldLink RX3 13 "CubeWorldsModel" "cube" "[I"] ++ wsX30)
def wsX3_one : List Cond := .code yX3_one cX3_one 5 (some .int) :: ([.methodLink RX3 39 yX3_isSlot, .static yX3_isSlot, .initialized RX3, .code yX3_isSlot cX3_isSlot 1 (some .boolean), .methodLink RX3 31 yX3_in, .static yX3_in, .code yX3_in cX3_in 3 (some .boolean), .methodLink RX3 35 yX3_numbers, .instanceMethod yX3_numbers, .selects RX3 yX3_numbers yX3_numbers, .code yX3_numbers cX3_numbers 2 (some .int), .fieldLink RX3 7 "CubeWorldsModel" "size" "[I", .methodLink RX3 51 yX3_times, .instanceMethod yX3_times, .selects RX3 yX3_times yX3_times, .code yX3_times cX3_times 7 (some .int), .fieldLink RX3 13 "CubeWorldsModel" "cube" "[I"] ++ wsX30)
def wsX3_quotient : List Cond := .code yX3_quotient cX3_quotient 8 (some .int) :: ([.methodLink RX3 39 yX3_isSlot, .static yX3_isSlot, .initialized RX3, .code yX3_isSlot cX3_isSlot 1 (some .boolean), .methodLink RX3 31 yX3_in, .static yX3_in, .code yX3_in cX3_in 3 (some .boolean), .methodLink RX3 47 yX3_isNumber, .instanceMethod yX3_isNumber, .selects RX3 yX3_isNumber yX3_isNumber, .code yX3_isNumber cX3_isNumber 3 (some .boolean), .methodLink RX3 35 yX3_numbers, .instanceMethod yX3_numbers, .selects RX3 yX3_numbers yX3_numbers, .code yX3_numbers cX3_numbers 2 (some .int), .fieldLink RX3 7 "CubeWorldsModel" "size" "[I", .methodLink RX3 51 yX3_times, .instanceMethod yX3_times, .selects RX3 yX3_times yX3_times, .code yX3_times cX3_times 7 (some .int), .fieldLink RX3 13 "CubeWorldsModel" "cube" "[I"] ++ wsX30)
def wsX3_bit : List Cond := .code yX3_bit cX3_bit 5 (some .int) :: ([.fieldLink RX3 13 "CubeWorldsModel" "cube" "[I"] ++ wsX30)
def wsX3_turned : List Cond := .code yX3_turned cX3_turned 6 (some .int) :: ([.methodLink RX3 58 yX3_bit, .instanceMethod yX3_bit, .selects RX3 yX3_bit yX3_bit, .initialized RX3, .code yX3_bit cX3_bit 5 (some .int), .fieldLink RX3 13 "CubeWorldsModel" "cube" "[I"] ++ wsX30)
def wsX3_copy : List Cond := .code yX3_copy cX3_copy 4 none :: ([.fieldLink RX3 7 "CubeWorldsModel" "size" "[I", .fieldLink RX3 13 "CubeWorldsModel" "cube" "[I"] ++ wsX30)
def wsX3_turn_r1 : List Cond := [Cond.fieldLink RX3 7 "CubeWorldsModel" "size" "[I", Cond.fieldLink RX3 13 "CubeWorldsModel" "cube" "[I", Cond.methodLink RX3 39 yX3_isSlot, Cond.static yX3_isSlot, Cond.initialized RX3, Cond.code yX3_isSlot cX3_isSlot 1 (some .boolean), Cond.methodLink RX3 31 yX3_in, Cond.static yX3_in, Cond.code yX3_in cX3_in 3 (some .boolean), Cond.methodLink RX3 43 yX3_clear, Cond.instanceMethod yX3_clear, Cond.selects RX3 yX3_clear yX3_clear, Cond.code yX3_clear cX3_clear 4 none, Cond.methodLink RX3 62 yX3_turned, Cond.instanceMethod yX3_turned, Cond.selects RX3 yX3_turned yX3_turned, Cond.code yX3_turned cX3_turned 6 (some .int), Cond.methodLink RX3 58 yX3_bit, Cond.instanceMethod yX3_bit, Cond.selects RX3 yX3_bit yX3_bit, Cond.code yX3_bit cX3_bit 5 (some .int), Cond.methodLink RX3 66 yX3_copy, Cond.instanceMethod yX3_copy, Cond.selects RX3 yX3_copy yX3_copy]
def wsX3_turn_r2 : List Cond := [Cond.code yX3_copy cX3_copy 4 none]
def wsX3_turn : List Cond := .code yX3_turn cX3_turn 8 (some .int) :: ((wsX3_turn_r1 ++ wsX3_turn_r2) ++ wsX30)
def wsX3_joinsTwo : List Cond := .code yX3_joinsTwo cX3_joinsTwo 6 (some .boolean) :: ([.methodLink RX3 51 yX3_times, .instanceMethod yX3_times, .selects RX3 yX3_times yX3_times, .initialized RX3, .code yX3_times cX3_times 7 (some .int), .fieldLink RX3 7 "CubeWorldsModel" "size" "[I", .fieldLink RX3 13 "CubeWorldsModel" "cube" "[I"] ++ wsX30)
def wsX3_joinsAll : List Cond := .code yX3_joinsAll cX3_joinsAll 7 (some .boolean) :: ([.methodLink RX3 35 yX3_numbers, .instanceMethod yX3_numbers, .selects RX3 yX3_numbers yX3_numbers, .initialized RX3, .code yX3_numbers cX3_numbers 2 (some .int), .fieldLink RX3 7 "CubeWorldsModel" "size" "[I", .methodLink RX3 51 yX3_times, .instanceMethod yX3_times, .selects RX3 yX3_times yX3_times, .code yX3_times cX3_times 7 (some .int), .fieldLink RX3 13 "CubeWorldsModel" "cube" "[I", .methodLink RX3 69 yX3_joinsTwo, .instanceMethod yX3_joinsTwo, .selects RX3 yX3_joinsTwo yX3_joinsTwo, .code yX3_joinsTwo cX3_joinsTwo 6 (some .boolean)] ++ wsX30)
def wsX3_joins_r1 : List Cond := [Cond.methodLink RX3 39 yX3_isSlot, Cond.static yX3_isSlot, Cond.initialized RX3, Cond.code yX3_isSlot cX3_isSlot 1 (some .boolean), Cond.methodLink RX3 31 yX3_in, Cond.static yX3_in, Cond.code yX3_in cX3_in 3 (some .boolean), Cond.methodLink RX3 47 yX3_isNumber, Cond.instanceMethod yX3_isNumber, Cond.selects RX3 yX3_isNumber yX3_isNumber, Cond.code yX3_isNumber cX3_isNumber 3 (some .boolean), Cond.methodLink RX3 35 yX3_numbers, Cond.instanceMethod yX3_numbers, Cond.selects RX3 yX3_numbers yX3_numbers, Cond.code yX3_numbers cX3_numbers 2 (some .int), Cond.fieldLink RX3 7 "CubeWorldsModel" "size" "[I", Cond.methodLink RX3 73 yX3_joinsAll, Cond.instanceMethod yX3_joinsAll, Cond.selects RX3 yX3_joinsAll yX3_joinsAll, Cond.code yX3_joinsAll cX3_joinsAll 7 (some .boolean), Cond.methodLink RX3 51 yX3_times, Cond.instanceMethod yX3_times, Cond.selects RX3 yX3_times yX3_times, Cond.code yX3_times cX3_times 7 (some .int)]
def wsX3_joins_r2 : List Cond := [Cond.fieldLink RX3 13 "CubeWorldsModel" "cube" "[I", Cond.methodLink RX3 69 yX3_joinsTwo, Cond.instanceMethod yX3_joinsTwo, Cond.selects RX3 yX3_joinsTwo yX3_joinsTwo, Cond.code yX3_joinsTwo cX3_joinsTwo 6 (some .boolean)]
def wsX3_joins : List Cond := .code yX3_joins cX3_joins 4 (some .int) :: ((wsX3_joins_r1 ++ wsX3_joins_r2) ++ wsX30)
def wsX3_many_r1 : List Cond := [Cond.methodLink RX3 39 yX3_isSlot, Cond.static yX3_isSlot, Cond.initialized RX3, Cond.code yX3_isSlot cX3_isSlot 1 (some .boolean), Cond.methodLink RX3 31 yX3_in, Cond.static yX3_in, Cond.code yX3_in cX3_in 3 (some .boolean), Cond.methodLink RX3 35 yX3_numbers, Cond.instanceMethod yX3_numbers, Cond.selects RX3 yX3_numbers yX3_numbers, Cond.code yX3_numbers cX3_numbers 2 (some .int), Cond.fieldLink RX3 7 "CubeWorldsModel" "size" "[I", Cond.methodLink RX3 73 yX3_joinsAll, Cond.instanceMethod yX3_joinsAll, Cond.selects RX3 yX3_joinsAll yX3_joinsAll, Cond.code yX3_joinsAll cX3_joinsAll 7 (some .boolean), Cond.methodLink RX3 51 yX3_times, Cond.instanceMethod yX3_times, Cond.selects RX3 yX3_times yX3_times, Cond.code yX3_times cX3_times 7 (some .int), Cond.fieldLink RX3 13 "CubeWorldsModel" "cube" "[I", Cond.methodLink RX3 69 yX3_joinsTwo, Cond.instanceMethod yX3_joinsTwo, Cond.selects RX3 yX3_joinsTwo yX3_joinsTwo]
def wsX3_many_r2 : List Cond := [Cond.code yX3_joinsTwo cX3_joinsTwo 6 (some .boolean)]
def wsX3_many : List Cond := .code yX3_many cX3_many 5 (some .int) :: ((wsX3_many_r1 ++ wsX3_many_r2) ++ wsX30)
def wsX3_unlike : List Cond := .code yX3_unlike cX3_unlike 5 (some .int) :: ([.methodLink RX3 39 yX3_isSlot, .static yX3_isSlot, .initialized RX3, .code yX3_isSlot cX3_isSlot 1 (some .boolean), .methodLink RX3 31 yX3_in, .static yX3_in, .code yX3_in cX3_in 3 (some .boolean), .methodLink RX3 35 yX3_numbers, .instanceMethod yX3_numbers, .selects RX3 yX3_numbers yX3_numbers, .code yX3_numbers cX3_numbers 2 (some .int), .fieldLink RX3 7 "CubeWorldsModel" "size" "[I", .methodLink RX3 51 yX3_times, .instanceMethod yX3_times, .selects RX3 yX3_times yX3_times, .code yX3_times cX3_times 7 (some .int), .fieldLink RX3 13 "CubeWorldsModel" "cube" "[I"] ++ wsX30)
def wsX3_isMap : List Cond := .code yX3_isMap cX3_isMap 1 (some .boolean) :: ([.methodLink RX3 31 yX3_in, .static yX3_in, .initialized RX3, .code yX3_in cX3_in 3 (some .boolean)])
def wsX3_map : List Cond := .code yX3_map cX3_map 5 (some .int) :: ([.fieldLink RX3 16 "CubeWorldsModel" "maps" "[I", .methodLink RX3 76 yX3_isMap, .static yX3_isMap, .initialized RX3, .code yX3_isMap cX3_isMap 1 (some .boolean), .methodLink RX3 31 yX3_in, .static yX3_in, .code yX3_in cX3_in 3 (some .boolean)] ++ wsX30)
def wsX3_image : List Cond := .code yX3_image cX3_image 5 (some .int) :: ([.fieldLink RX3 16 "CubeWorldsModel" "maps" "[I"] ++ wsX30)
def wsX3_gives : List Cond := .code yX3_gives cX3_gives 3 (some .int) :: ([.methodLink RX3 76 yX3_isMap, .static yX3_isMap, .initialized RX3, .code yX3_isMap cX3_isMap 1 (some .boolean), .methodLink RX3 31 yX3_in, .static yX3_in, .code yX3_in cX3_in 3 (some .boolean), .methodLink RX3 79 yX3_image, .instanceMethod yX3_image, .selects RX3 yX3_image yX3_image, .code yX3_image cX3_image 5 (some .int), .fieldLink RX3 16 "CubeWorldsModel" "maps" "[I"] ++ wsX30)
def wsX3_isFit : List Cond := .code yX3_isFit cX3_isFit 5 (some .boolean) :: ([.methodLink RX3 79 yX3_image, .instanceMethod yX3_image, .selects RX3 yX3_image yX3_image, .initialized RX3, .code yX3_image cX3_image 5 (some .int), .fieldLink RX3 16 "CubeWorldsModel" "maps" "[I"] ++ wsX30)
def wsX3_fits : List Cond := .code yX3_fits cX3_fits 3 (some .int) :: ([.methodLink RX3 76 yX3_isMap, .static yX3_isMap, .initialized RX3, .code yX3_isMap cX3_isMap 1 (some .boolean), .methodLink RX3 31 yX3_in, .static yX3_in, .code yX3_in cX3_in 3 (some .boolean), .methodLink RX3 83 yX3_isFit, .instanceMethod yX3_isFit, .selects RX3 yX3_isFit yX3_isFit, .code yX3_isFit cX3_isFit 5 (some .boolean), .methodLink RX3 79 yX3_image, .instanceMethod yX3_image, .selects RX3 yX3_image yX3_image, .code yX3_image cX3_image 5 (some .int), .fieldLink RX3 16 "CubeWorldsModel" "maps" "[I"] ++ wsX30)
def wsX3_alike_r1 : List Cond := [Cond.fieldLink RX3 7 "CubeWorldsModel" "size" "[I", Cond.methodLink RX3 39 yX3_isSlot, Cond.static yX3_isSlot, Cond.initialized RX3, Cond.code yX3_isSlot cX3_isSlot 1 (some .boolean), Cond.methodLink RX3 31 yX3_in, Cond.static yX3_in, Cond.code yX3_in cX3_in 3 (some .boolean), Cond.methodLink RX3 83 yX3_isFit, Cond.instanceMethod yX3_isFit, Cond.selects RX3 yX3_isFit yX3_isFit, Cond.code yX3_isFit cX3_isFit 5 (some .boolean), Cond.methodLink RX3 79 yX3_image, Cond.instanceMethod yX3_image, Cond.selects RX3 yX3_image yX3_image, Cond.code yX3_image cX3_image 5 (some .int), Cond.fieldLink RX3 16 "CubeWorldsModel" "maps" "[I", Cond.methodLink RX3 35 yX3_numbers, Cond.instanceMethod yX3_numbers, Cond.selects RX3 yX3_numbers yX3_numbers, Cond.code yX3_numbers cX3_numbers 2 (some .int), Cond.methodLink RX3 51 yX3_times, Cond.instanceMethod yX3_times, Cond.selects RX3 yX3_times yX3_times]
def wsX3_alike_r2 : List Cond := [Cond.code yX3_times cX3_times 7 (some .int), Cond.fieldLink RX3 13 "CubeWorldsModel" "cube" "[I"]
def wsX3_alike : List Cond := .code yX3_alike cX3_alike 6 (some .int) :: ((wsX3_alike_r1 ++ wsX3_alike_r2) ++ wsX30)
def wsX3_back : List Cond := .code yX3_back cX3_back 4 (some .int) :: ([.methodLink RX3 79 yX3_image, .instanceMethod yX3_image, .selects RX3 yX3_image yX3_image, .initialized RX3, .code yX3_image cX3_image 5 (some .int), .fieldLink RX3 16 "CubeWorldsModel" "maps" "[I"] ++ wsX30)
def wsX3_carry_r1 : List Cond := [Cond.fieldLink RX3 7 "CubeWorldsModel" "size" "[I", Cond.fieldLink RX3 13 "CubeWorldsModel" "cube" "[I", Cond.methodLink RX3 39 yX3_isSlot, Cond.static yX3_isSlot, Cond.initialized RX3, Cond.code yX3_isSlot cX3_isSlot 1 (some .boolean), Cond.methodLink RX3 31 yX3_in, Cond.static yX3_in, Cond.code yX3_in cX3_in 3 (some .boolean), Cond.methodLink RX3 83 yX3_isFit, Cond.instanceMethod yX3_isFit, Cond.selects RX3 yX3_isFit yX3_isFit, Cond.code yX3_isFit cX3_isFit 5 (some .boolean), Cond.methodLink RX3 79 yX3_image, Cond.instanceMethod yX3_image, Cond.selects RX3 yX3_image yX3_image, Cond.code yX3_image cX3_image 5 (some .int), Cond.fieldLink RX3 16 "CubeWorldsModel" "maps" "[I", Cond.methodLink RX3 43 yX3_clear, Cond.instanceMethod yX3_clear, Cond.selects RX3 yX3_clear yX3_clear, Cond.code yX3_clear cX3_clear 4 none, Cond.methodLink RX3 86 yX3_back, Cond.instanceMethod yX3_back]
def wsX3_carry_r2 : List Cond := [Cond.selects RX3 yX3_back yX3_back, Cond.code yX3_back cX3_back 4 (some .int), Cond.methodLink RX3 51 yX3_times, Cond.instanceMethod yX3_times, Cond.selects RX3 yX3_times yX3_times, Cond.code yX3_times cX3_times 7 (some .int), Cond.methodLink RX3 66 yX3_copy, Cond.instanceMethod yX3_copy, Cond.selects RX3 yX3_copy yX3_copy, Cond.code yX3_copy cX3_copy 4 none]
def wsX3_carry : List Cond := .code yX3_carry cX3_carry 6 (some .int) :: ((wsX3_carry_r1 ++ wsX3_carry_r2) ++ wsX30)
def wsX3_lay : List Cond := .code yX3_lay cX3_lay 6 (some .boolean) :: ([])
def wsX3_hasThird : List Cond := .code yX3_hasThird cX3_hasThird 5 (some .boolean) :: ([.fieldLink RX3 28 "CubeWorldsModel" "third" "[I", .fieldLink RX3 19 "CubeWorldsModel" "table" "[I", .fieldLink RX3 22 "CubeWorldsModel" "first" "[I", .fieldLink RX3 25 "CubeWorldsModel" "second" "[I"] ++ wsX30)
def wsX3_ways_r1 : List Cond := [Cond.fieldLink RX3 7 "CubeWorldsModel" "size" "[I", Cond.fieldLink RX3 19 "CubeWorldsModel" "table" "[I", Cond.fieldLink RX3 22 "CubeWorldsModel" "first" "[I", Cond.fieldLink RX3 25 "CubeWorldsModel" "second" "[I", Cond.methodLink RX3 39 yX3_isSlot, Cond.static yX3_isSlot, Cond.initialized RX3, Cond.code yX3_isSlot cX3_isSlot 1 (some .boolean), Cond.methodLink RX3 31 yX3_in, Cond.static yX3_in, Cond.code yX3_in cX3_in 3 (some .boolean), Cond.methodLink RX3 55 yX3_firstBroken, Cond.instanceMethod yX3_firstBroken, Cond.selects RX3 yX3_firstBroken yX3_firstBroken, Cond.code yX3_firstBroken cX3_firstBroken 4 (some .int), Cond.methodLink RX3 35 yX3_numbers, Cond.instanceMethod yX3_numbers, Cond.selects RX3 yX3_numbers yX3_numbers, Cond.code yX3_numbers cX3_numbers 2 (some .int), Cond.methodLink RX3 51 yX3_times, Cond.instanceMethod yX3_times, Cond.selects RX3 yX3_times yX3_times, Cond.code yX3_times cX3_times 7 (some .int), Cond.fieldLink RX3 13 "CubeWorldsModel" "cube" "[I"]
def wsX3_ways_r2 : List Cond := [Cond.methodLink RX3 89 yX3_lay, Cond.static yX3_lay, Cond.code yX3_lay cX3_lay 6 (some .boolean), Cond.methodLink RX3 93 yX3_hasThird, Cond.instanceMethod yX3_hasThird, Cond.selects RX3 yX3_hasThird yX3_hasThird, Cond.code yX3_hasThird cX3_hasThird 5 (some .boolean), Cond.fieldLink RX3 28 "CubeWorldsModel" "third" "[I"]
def wsX3_ways : List Cond := .code yX3_ways cX3_ways 8 (some .int) :: ((wsX3_ways_r1 ++ wsX3_ways_r2) ++ wsX30)
def wsX3_isPlace : List Cond := .code yX3_isPlace cX3_isPlace 4 (some .boolean) :: ([.methodLink RX3 35 yX3_numbers, .instanceMethod yX3_numbers, .selects RX3 yX3_numbers yX3_numbers, .initialized RX3, .code yX3_numbers cX3_numbers 2 (some .int), .fieldLink RX3 7 "CubeWorldsModel" "size" "[I", .methodLink RX3 31 yX3_in, .static yX3_in, .code yX3_in cX3_in 3 (some .boolean)] ++ wsX30)
def wsX3_isOn : List Cond := .code yX3_isOn cX3_isOn 6 (some .boolean) :: ([.methodLink RX3 35 yX3_numbers, .instanceMethod yX3_numbers, .selects RX3 yX3_numbers yX3_numbers, .initialized RX3, .code yX3_numbers cX3_numbers 2 (some .int), .fieldLink RX3 7 "CubeWorldsModel" "size" "[I", .methodLink RX3 51 yX3_times, .instanceMethod yX3_times, .selects RX3 yX3_times yX3_times, .code yX3_times cX3_times 7 (some .int), .fieldLink RX3 13 "CubeWorldsModel" "cube" "[I"] ++ wsX30)
def wsX3_on_r1 : List Cond := [Cond.methodLink RX3 39 yX3_isSlot, Cond.static yX3_isSlot, Cond.initialized RX3, Cond.code yX3_isSlot cX3_isSlot 1 (some .boolean), Cond.methodLink RX3 31 yX3_in, Cond.static yX3_in, Cond.code yX3_in cX3_in 3 (some .boolean), Cond.methodLink RX3 96 yX3_isPlace, Cond.instanceMethod yX3_isPlace, Cond.selects RX3 yX3_isPlace yX3_isPlace, Cond.code yX3_isPlace cX3_isPlace 4 (some .boolean), Cond.methodLink RX3 35 yX3_numbers, Cond.instanceMethod yX3_numbers, Cond.selects RX3 yX3_numbers yX3_numbers, Cond.code yX3_numbers cX3_numbers 2 (some .int), Cond.fieldLink RX3 7 "CubeWorldsModel" "size" "[I", Cond.methodLink RX3 99 yX3_isOn, Cond.instanceMethod yX3_isOn, Cond.selects RX3 yX3_isOn yX3_isOn, Cond.code yX3_isOn cX3_isOn 6 (some .boolean), Cond.methodLink RX3 51 yX3_times, Cond.instanceMethod yX3_times, Cond.selects RX3 yX3_times yX3_times, Cond.code yX3_times cX3_times 7 (some .int)]
def wsX3_on_r2 : List Cond := [Cond.fieldLink RX3 13 "CubeWorldsModel" "cube" "[I"]
def wsX3_on : List Cond := .code yX3_on cX3_on 4 (some .int) :: ((wsX3_on_r1 ++ wsX3_on_r2) ++ wsX30)
def wsX3_common : List Cond := .code yX3_common cX3_common 8 (some .int) :: ([.methodLink RX3 96 yX3_isPlace, .instanceMethod yX3_isPlace, .selects RX3 yX3_isPlace yX3_isPlace, .initialized RX3, .code yX3_isPlace cX3_isPlace 4 (some .boolean), .methodLink RX3 35 yX3_numbers, .instanceMethod yX3_numbers, .selects RX3 yX3_numbers yX3_numbers, .code yX3_numbers cX3_numbers 2 (some .int), .fieldLink RX3 7 "CubeWorldsModel" "size" "[I", .methodLink RX3 31 yX3_in, .static yX3_in, .code yX3_in cX3_in 3 (some .boolean), .methodLink RX3 99 yX3_isOn, .instanceMethod yX3_isOn, .selects RX3 yX3_isOn yX3_isOn, .code yX3_isOn cX3_isOn 6 (some .boolean), .methodLink RX3 51 yX3_times, .instanceMethod yX3_times, .selects RX3 yX3_times yX3_times, .code yX3_times cX3_times 7 (some .int), .fieldLink RX3 13 "CubeWorldsModel" "cube" "[I"] ++ wsX30)
def wsX3_join_r1 : List Cond := [Cond.methodLink RX3 39 yX3_isSlot, Cond.static yX3_isSlot, Cond.initialized RX3, Cond.code yX3_isSlot cX3_isSlot 1 (some .boolean), Cond.methodLink RX3 31 yX3_in, Cond.static yX3_in, Cond.code yX3_in cX3_in 3 (some .boolean), Cond.methodLink RX3 96 yX3_isPlace, Cond.instanceMethod yX3_isPlace, Cond.selects RX3 yX3_isPlace yX3_isPlace, Cond.code yX3_isPlace cX3_isPlace 4 (some .boolean), Cond.methodLink RX3 35 yX3_numbers, Cond.instanceMethod yX3_numbers, Cond.selects RX3 yX3_numbers yX3_numbers, Cond.code yX3_numbers cX3_numbers 2 (some .int), Cond.fieldLink RX3 7 "CubeWorldsModel" "size" "[I", Cond.methodLink RX3 102 yX3_common, Cond.instanceMethod yX3_common, Cond.selects RX3 yX3_common yX3_common, Cond.code yX3_common cX3_common 8 (some .int), Cond.methodLink RX3 99 yX3_isOn, Cond.instanceMethod yX3_isOn, Cond.selects RX3 yX3_isOn yX3_isOn, Cond.code yX3_isOn cX3_isOn 6 (some .boolean)]
def wsX3_join_r2 : List Cond := [Cond.methodLink RX3 51 yX3_times, Cond.instanceMethod yX3_times, Cond.selects RX3 yX3_times yX3_times, Cond.code yX3_times cX3_times 7 (some .int), Cond.fieldLink RX3 13 "CubeWorldsModel" "cube" "[I"]
def wsX3_join : List Cond := .code yX3_join cX3_join 4 (some .int) :: ((wsX3_join_r1 ++ wsX3_join_r2) ++ wsX30)
def wsX3_meet_r1 : List Cond := [Cond.methodLink RX3 39 yX3_isSlot, Cond.static yX3_isSlot, Cond.initialized RX3, Cond.code yX3_isSlot cX3_isSlot 1 (some .boolean), Cond.methodLink RX3 31 yX3_in, Cond.static yX3_in, Cond.code yX3_in cX3_in 3 (some .boolean), Cond.methodLink RX3 96 yX3_isPlace, Cond.instanceMethod yX3_isPlace, Cond.selects RX3 yX3_isPlace yX3_isPlace, Cond.code yX3_isPlace cX3_isPlace 4 (some .boolean), Cond.methodLink RX3 35 yX3_numbers, Cond.instanceMethod yX3_numbers, Cond.selects RX3 yX3_numbers yX3_numbers, Cond.code yX3_numbers cX3_numbers 2 (some .int), Cond.fieldLink RX3 7 "CubeWorldsModel" "size" "[I", Cond.methodLink RX3 102 yX3_common, Cond.instanceMethod yX3_common, Cond.selects RX3 yX3_common yX3_common, Cond.code yX3_common cX3_common 8 (some .int), Cond.methodLink RX3 99 yX3_isOn, Cond.instanceMethod yX3_isOn, Cond.selects RX3 yX3_isOn yX3_isOn, Cond.code yX3_isOn cX3_isOn 6 (some .boolean)]
def wsX3_meet_r2 : List Cond := [Cond.methodLink RX3 51 yX3_times, Cond.instanceMethod yX3_times, Cond.selects RX3 yX3_times yX3_times, Cond.code yX3_times cX3_times 7 (some .int), Cond.fieldLink RX3 13 "CubeWorldsModel" "cube" "[I"]
def wsX3_meet : List Cond := .code yX3_meet cX3_meet 4 (some .int) :: ((wsX3_meet_r1 ++ wsX3_meet_r2) ++ wsX30)
def wsX3_bad : List Cond := .code yX3_bad cX3_bad 8 (some .int) :: ([.methodLink RX3 39 yX3_isSlot, .static yX3_isSlot, .initialized RX3, .code yX3_isSlot cX3_isSlot 1 (some .boolean), .methodLink RX3 31 yX3_in, .static yX3_in, .code yX3_in cX3_in 3 (some .boolean), .methodLink RX3 35 yX3_numbers, .instanceMethod yX3_numbers, .selects RX3 yX3_numbers yX3_numbers, .code yX3_numbers cX3_numbers 2 (some .int), .fieldLink RX3 7 "CubeWorldsModel" "size" "[I", .methodLink RX3 51 yX3_times, .instanceMethod yX3_times, .selects RX3 yX3_times yX3_times, .code yX3_times cX3_times 7 (some .int), .fieldLink RX3 13 "CubeWorldsModel" "cube" "[I"] ++ wsX30)
def wsX3_rankOf : List Cond := .code yX3_rankOf cX3_rankOf 6 (some .int) :: ([.methodLink RX3 35 yX3_numbers, .instanceMethod yX3_numbers, .selects RX3 yX3_numbers yX3_numbers, .initialized RX3, .code yX3_numbers cX3_numbers 2 (some .int), .fieldLink RX3 7 "CubeWorldsModel" "size" "[I", .methodLink RX3 51 yX3_times, .instanceMethod yX3_times, .selects RX3 yX3_times yX3_times, .code yX3_times cX3_times 7 (some .int), .fieldLink RX3 13 "CubeWorldsModel" "cube" "[I"] ++ wsX30)
def wsX3_rank_r1 : List Cond := [Cond.methodLink RX3 39 yX3_isSlot, Cond.static yX3_isSlot, Cond.initialized RX3, Cond.code yX3_isSlot cX3_isSlot 1 (some .boolean), Cond.methodLink RX3 31 yX3_in, Cond.static yX3_in, Cond.code yX3_in cX3_in 3 (some .boolean), Cond.methodLink RX3 47 yX3_isNumber, Cond.instanceMethod yX3_isNumber, Cond.selects RX3 yX3_isNumber yX3_isNumber, Cond.code yX3_isNumber cX3_isNumber 3 (some .boolean), Cond.methodLink RX3 35 yX3_numbers, Cond.instanceMethod yX3_numbers, Cond.selects RX3 yX3_numbers yX3_numbers, Cond.code yX3_numbers cX3_numbers 2 (some .int), Cond.fieldLink RX3 7 "CubeWorldsModel" "size" "[I", Cond.methodLink RX3 106 yX3_rankOf, Cond.instanceMethod yX3_rankOf, Cond.selects RX3 yX3_rankOf yX3_rankOf, Cond.code yX3_rankOf cX3_rankOf 6 (some .int), Cond.methodLink RX3 51 yX3_times, Cond.instanceMethod yX3_times, Cond.selects RX3 yX3_times yX3_times, Cond.code yX3_times cX3_times 7 (some .int)]
def wsX3_rank_r2 : List Cond := [Cond.fieldLink RX3 13 "CubeWorldsModel" "cube" "[I"]
def wsX3_rank : List Cond := .code yX3_rank cX3_rank 3 (some .int) :: ((wsX3_rank_r1 ++ wsX3_rank_r2) ++ wsX30)
def wsX3_ranks : List Cond := .code yX3_ranks cX3_ranks 5 (some .int) :: ([.methodLink RX3 39 yX3_isSlot, .static yX3_isSlot, .initialized RX3, .code yX3_isSlot cX3_isSlot 1 (some .boolean), .methodLink RX3 31 yX3_in, .static yX3_in, .code yX3_in cX3_in 3 (some .boolean), .methodLink RX3 35 yX3_numbers, .instanceMethod yX3_numbers, .selects RX3 yX3_numbers yX3_numbers, .code yX3_numbers cX3_numbers 2 (some .int), .fieldLink RX3 7 "CubeWorldsModel" "size" "[I", .methodLink RX3 106 yX3_rankOf, .instanceMethod yX3_rankOf, .selects RX3 yX3_rankOf yX3_rankOf, .code yX3_rankOf cX3_rankOf 6 (some .int), .methodLink RX3 51 yX3_times, .instanceMethod yX3_times, .selects RX3 yX3_times yX3_times, .code yX3_times cX3_times 7 (some .int), .fieldLink RX3 13 "CubeWorldsModel" "cube" "[I"] ++ wsX30)
def wsX3_cubes : List Cond := .code yX3_cubes cX3_cubes 5 (some .int) :: ([.fieldLink RX3 13 "CubeWorldsModel" "cube" "[I", .methodLink RX3 31 yX3_in, .static yX3_in, .initialized RX3, .code yX3_in cX3_in 3 (some .boolean), .methodLink RX3 43 yX3_clear, .instanceMethod yX3_clear, .selects RX3 yX3_clear yX3_clear, .code yX3_clear cX3_clear 4 none, .fieldLink RX3 7 "CubeWorldsModel" "size" "[I", .methodLink RX3 55 yX3_firstBroken, .instanceMethod yX3_firstBroken, .selects RX3 yX3_firstBroken yX3_firstBroken, .code yX3_firstBroken cX3_firstBroken 4 (some .int), .methodLink RX3 35 yX3_numbers, .instanceMethod yX3_numbers, .selects RX3 yX3_numbers yX3_numbers, .code yX3_numbers cX3_numbers 2 (some .int), .methodLink RX3 51 yX3_times, .instanceMethod yX3_times, .selects RX3 yX3_times yX3_times, .code yX3_times cX3_times 7 (some .int)] ++ wsX30)
def wsJ9_max_7cf53 : List Cond := .code yJ9_max_7cf53 cJ9_max_7cf53 2 (some .int) :: ([])
def wsJ9_min_7cf53 : List Cond := .code yJ9_min_7cf53 cJ9_min_7cf53 2 (some .int) :: ([])
def wsL_law_r1 : List Cond := [Cond.classLink RL 7 RX2, Cond.instantiable RX2 7, Cond.initialized RX2, Cond.classLink RL 10 RX3, Cond.instantiable RX3 7, Cond.initialized RX3, Cond.methodLink RL 9 yX2_init, Cond.instanceMethod yX2_init, Cond.code yX2_init cX2_init 2 none, Cond.methodLink RX2 1 objectInit, Cond.instanceMethod objectInit, Cond.code objectInit ⟨#[0xb1]⟩ 1 none, Cond.classLink RX2 9 RX1, Cond.fieldLink RX2 11 "CubeWorlds" "worlds" "[LCubeWorlds$World;", Cond.classLink RX2 15 "[[I", Cond.arrayClass .int, Cond.fieldLink RX2 17 "CubeWorlds" "maps" "[[I", Cond.instantiable RX1 4, Cond.initialized RX1, Cond.fieldLink RX2 21 "CubeWorlds" "trial" "LCubeWorlds$World;", Cond.fieldLink RX2 25 "CubeWorlds" "cells" "[I", Cond.fieldLink RX2 29 "CubeWorlds" "tryA" "[I", Cond.fieldLink RX2 32 "CubeWorlds" "tryC" "[I", Cond.fieldLink RX2 35 "CubeWorlds" "unwound" "[I"]
def wsL_law_r2 : List Cond := [Cond.methodLink RX2 20 yX1_init, Cond.instanceMethod yX1_init, Cond.code yX1_init cX1_init 1 none, Cond.methodLink RX1 3 objectInit, Cond.fieldLink RX1 9 "CubeWorlds$World" "bits" "I", Cond.fieldLink RX1 15 "CubeWorlds$World" "size" "I", Cond.fieldLink RX1 18 "CubeWorlds$World" "cube" "[I", Cond.fieldLink RX1 22 "CubeWorlds$World" "table" "[I", Cond.methodLink RX1 25 yX1_changeCell, Cond.instanceMethod yX1_changeCell, Cond.selects RX1 yX1_changeCell yX1_changeCell, Cond.code yX1_changeCell cX1_changeCell 4 none, Cond.static yX2_cellIndex, Cond.code yX2_cellIndex cX2_cellIndex 2 (some .int), Cond.methodLink RX1 36 yX1_fillTable, Cond.instanceMethod yX1_fillTable, Cond.selects RX1 yX1_fillTable yX1_fillTable, Cond.code yX1_fillTable cX1_fillTable 3 none, Cond.methodLink RX1 39 yX1_tableIndex, Cond.static yX1_tableIndex, Cond.code yX1_tableIndex cX1_tableIndex 2 (some .int), Cond.methodLink RX1 42 yX1_sumOfCells, Cond.instanceMethod yX1_sumOfCells, Cond.selects RX1 yX1_sumOfCells yX1_sumOfCells]
def wsL_law_r3 : List Cond := [Cond.code yX1_sumOfCells cX1_sumOfCells 6 (some .int), Cond.methodLink RX1 33 yX1_cell, Cond.instanceMethod yX1_cell, Cond.selects RX1 yX1_cell yX1_cell, Cond.code yX1_cell cX1_cell 3 (some .int), Cond.methodLink RL 12 yX3_init, Cond.instanceMethod yX3_init, Cond.code yX3_init cX3_init 2 none, Cond.methodLink RX3 1 objectInit, Cond.fieldLink RX3 7 "CubeWorldsModel" "size" "[I", Cond.fieldLink RX3 13 "CubeWorldsModel" "cube" "[I", Cond.fieldLink RX3 16 "CubeWorldsModel" "maps" "[I", Cond.fieldLink RX3 19 "CubeWorldsModel" "table" "[I", Cond.fieldLink RX3 22 "CubeWorldsModel" "first" "[I", Cond.fieldLink RX3 25 "CubeWorldsModel" "second" "[I", Cond.fieldLink RX3 28 "CubeWorldsModel" "third" "[I", Cond.methodLink RL 13 yX2_world, Cond.instanceMethod yX2_world, Cond.selects RX2 yX2_world yX2_world, Cond.code yX2_world cX2_world 6 (some .int), Cond.methodLink RX2 38 yX2_worldIn, Cond.instanceMethod yX2_worldIn, Cond.selects RX2 yX2_worldIn yX2_worldIn, Cond.code yX2_worldIn cX2_worldIn 2 (some (.object "CubeWorlds$World"))]
def wsL_law_r4 : List Cond := [Cond.methodLink RX2 42 yX2_isSomeN, Cond.static yX2_isSomeN, Cond.code yX2_isSomeN cX2_isSomeN 1 (some .boolean), Cond.methodLink RX2 46 yX2_cellIndex, Cond.methodLink RX2 50 yX1_take, Cond.instanceMethod yX1_take, Cond.selects RX1 yX1_take yX1_take, Cond.code yX1_take cX1_take 4 none, Cond.methodLink RX2 54 yX1_size, Cond.instanceMethod yX1_size, Cond.selects RX1 yX1_size yX1_size, Cond.code yX1_size cX1_size 1 (some .int), Cond.methodLink RL 17 yX3_world, Cond.instanceMethod yX3_world, Cond.selects RX3 yX3_world yX3_world, Cond.code yX3_world cX3_world 3 (some .int), Cond.methodLink RX3 39 yX3_isSlot, Cond.static yX3_isSlot, Cond.code yX3_isSlot cX3_isSlot 1 (some .boolean), Cond.methodLink RX3 31 yX3_in, Cond.static yX3_in, Cond.code yX3_in cX3_in 3 (some .boolean), Cond.methodLink RX3 43 yX3_clear, Cond.instanceMethod yX3_clear]
def wsL_law_r5 : List Cond := [Cond.selects RX3 yX3_clear yX3_clear, Cond.code yX3_clear cX3_clear 4 none, Cond.methodLink RL 18 yX2_put, Cond.instanceMethod yX2_put, Cond.selects RX2 yX2_put yX2_put, Cond.code yX2_put cX2_put 7 (some .int), Cond.methodLink RX2 58 yX1_has, Cond.instanceMethod yX1_has, Cond.selects RX1 yX1_has yX1_has, Cond.code yX1_has cX1_has 2 (some .boolean), Cond.methodLink RX2 61 yX1_hasBit, Cond.instanceMethod yX1_hasBit, Cond.selects RX1 yX1_hasBit yX1_hasBit, Cond.code yX1_hasBit cX1_hasBit 2 (some .boolean), Cond.methodLink RX2 64 yX1_cell, Cond.methodLink RX2 67 yX1_changeCell, Cond.methodLink RL 22 yX3_put, Cond.instanceMethod yX3_put, Cond.selects RX3 yX3_put yX3_put, Cond.code yX3_put cX3_put 7 (some .int), Cond.methodLink RX3 47 yX3_isNumber, Cond.instanceMethod yX3_isNumber, Cond.selects RX3 yX3_isNumber yX3_isNumber, Cond.code yX3_isNumber cX3_isNumber 3 (some .boolean)]
def wsL_law_r6 : List Cond := [Cond.methodLink RX3 35 yX3_numbers, Cond.instanceMethod yX3_numbers, Cond.selects RX3 yX3_numbers yX3_numbers, Cond.code yX3_numbers cX3_numbers 2 (some .int), Cond.methodLink RL 23 yX2_field, Cond.instanceMethod yX2_field, Cond.selects RX2 yX2_field yX2_field, Cond.code yX2_field cX2_field 6 (some .int), Cond.methodLink RX2 71 yX2_reduced, Cond.static yX2_reduced, Cond.code yX2_reduced cX2_reduced 5 (some .int), Cond.fieldLink RX2 181 "CubeWorlds" "FIELD_LESS" "[I", Cond.methodLink RL 26 yX3_field, Cond.instanceMethod yX3_field, Cond.selects RX3 yX3_field yX3_field, Cond.code yX3_field cX3_field 7 (some .int), Cond.methodLink RL 27 yX2_product, Cond.instanceMethod yX2_product, Cond.selects RX2 yX2_product yX2_product, Cond.code yX2_product cX2_product 5 (some .int), Cond.methodLink RX2 74 yX1_times, Cond.instanceMethod yX1_times, Cond.selects RX1 yX1_times yX1_times, Cond.code yX1_times cX1_times 3 (some .int)]
def wsL_law_r7 : List Cond := [Cond.methodLink RL 31 yX3_product, Cond.instanceMethod yX3_product, Cond.selects RX3 yX3_product yX3_product, Cond.code yX3_product cX3_product 4 (some .int), Cond.methodLink RX3 51 yX3_times, Cond.instanceMethod yX3_times, Cond.selects RX3 yX3_times yX3_times, Cond.code yX3_times cX3_times 7 (some .int), Cond.methodLink RL 32 yX2_divides, Cond.instanceMethod yX2_divides, Cond.selects RX2 yX2_divides yX2_divides, Cond.code yX2_divides cX2_divides 3 (some .int), Cond.methodLink RX2 77 yX1_isWhole, Cond.instanceMethod yX1_isWhole, Cond.selects RX1 yX1_isWhole yX1_isWhole, Cond.code yX1_isWhole cX1_isWhole 1 (some .boolean), Cond.methodLink RX1 45 yX1_leastBroken, Cond.instanceMethod yX1_leastBroken, Cond.selects RX1 yX1_leastBroken yX1_leastBroken, Cond.code yX1_leastBroken cX1_leastBroken 2 (some .int), Cond.methodLink RX1 49 yX1_leastPartner, Cond.instanceMethod yX1_leastPartner, Cond.selects RX1 yX1_leastPartner yX1_leastPartner, Cond.code yX1_leastPartner cX1_leastPartner 3 (some .int)]
def wsL_law_r8 : List Cond := [Cond.methodLink RX1 53 yX1_times, Cond.methodLink RX2 81 yX2_oneIf, Cond.static yX2_oneIf, Cond.code yX2_oneIf cX2_oneIf 1 (some .int), Cond.methodLink RL 36 yX3_divides, Cond.instanceMethod yX3_divides, Cond.selects RX3 yX3_divides yX3_divides, Cond.code yX3_divides cX3_divides 2 (some .int), Cond.methodLink RX3 55 yX3_firstBroken, Cond.instanceMethod yX3_firstBroken, Cond.selects RX3 yX3_firstBroken yX3_firstBroken, Cond.code yX3_firstBroken cX3_firstBroken 4 (some .int), Cond.methodLink RL 37 yX2_broken, Cond.instanceMethod yX2_broken, Cond.selects RX2 yX2_broken yX2_broken, Cond.code yX2_broken cX2_broken 5 (some .int), Cond.methodLink RX2 85 yX1_leastBroken, Cond.methodLink RX2 88 yX1_leastPartner, Cond.methodLink RL 41 yX3_broken, Cond.instanceMethod yX3_broken, Cond.selects RX3 yX3_broken yX3_broken, Cond.code yX3_broken cX3_broken 4 (some .int), Cond.methodLink RL 42 yX2_one, Cond.instanceMethod yX2_one]
def wsL_law_r9 : List Cond := [Cond.selects RX2 yX2_one yX2_one, Cond.code yX2_one cX2_one 3 (some .int), Cond.methodLink RX2 92 yX1_unit, Cond.instanceMethod yX1_unit, Cond.selects RX1 yX1_unit yX1_unit, Cond.code yX1_unit cX1_unit 2 (some .int), Cond.methodLink RX1 56 yX1_isUnit, Cond.instanceMethod yX1_isUnit, Cond.selects RX1 yX1_isUnit yX1_isUnit, Cond.code yX1_isUnit cX1_isUnit 3 (some .boolean), Cond.methodLink RL 45 yX3_one, Cond.instanceMethod yX3_one, Cond.selects RX3 yX3_one yX3_one, Cond.code yX3_one cX3_one 5 (some .int), Cond.methodLink RL 46 yX2_quotient, Cond.instanceMethod yX2_quotient, Cond.selects RX2 yX2_quotient yX2_quotient, Cond.code yX2_quotient cX2_quotient 6 (some .int), Cond.methodLink RX2 95 yX1_solve, Cond.instanceMethod yX1_solve, Cond.selects RX1 yX1_solve yX1_solve, Cond.code yX1_solve cX1_solve 7 (some .int), Cond.methodLink RL 50 yX3_quotient, Cond.instanceMethod yX3_quotient]
def wsL_law_r10 : List Cond := [Cond.selects RX3 yX3_quotient yX3_quotient, Cond.code yX3_quotient cX3_quotient 8 (some .int), Cond.methodLink RL 51 yX2_turn, Cond.instanceMethod yX2_turn, Cond.selects RX2 yX2_turn yX2_turn, Cond.code yX2_turn cX2_turn 9 (some .int), Cond.methodLink RX2 99 yX1_bits, Cond.instanceMethod yX1_bits, Cond.selects RX1 yX1_bits yX1_bits, Cond.code yX1_bits cX1_bits 1 (some .int), Cond.methodLink RX2 102 yX2_turnedCell, Cond.static yX2_turnedCell, Cond.code yX2_turnedCell cX2_turnedCell 6 (some .int), Cond.methodLink RX2 184 yX2_turnedBit, Cond.static yX2_turnedBit, Cond.code yX2_turnedBit cX2_turnedBit 5 (some .int), Cond.methodLink RX2 188 yX1_cubeBit, Cond.instanceMethod yX1_cubeBit, Cond.selects RX1 yX1_cubeBit yX1_cubeBit, Cond.code yX1_cubeBit cX1_cubeBit 4 (some .int), Cond.methodLink RL 54 yX3_turn, Cond.instanceMethod yX3_turn, Cond.selects RX3 yX3_turn yX3_turn, Cond.code yX3_turn cX3_turn 8 (some .int)]
def wsL_law_r11 : List Cond := [Cond.methodLink RX3 62 yX3_turned, Cond.instanceMethod yX3_turned, Cond.selects RX3 yX3_turned yX3_turned, Cond.code yX3_turned cX3_turned 6 (some .int), Cond.methodLink RX3 58 yX3_bit, Cond.instanceMethod yX3_bit, Cond.selects RX3 yX3_bit yX3_bit, Cond.code yX3_bit cX3_bit 5 (some .int), Cond.methodLink RX3 66 yX3_copy, Cond.instanceMethod yX3_copy, Cond.selects RX3 yX3_copy yX3_copy, Cond.code yX3_copy cX3_copy 4 none, Cond.methodLink RL 55 yX2_joins, Cond.instanceMethod yX2_joins, Cond.selects RX2 yX2_joins yX2_joins, Cond.code yX2_joins cX2_joins 5 (some .int), Cond.methodLink RX2 106 yX2_isSomeWay, Cond.static yX2_isSomeWay, Cond.code yX2_isSomeWay cX2_isSomeWay 1 (some .boolean), Cond.methodLink RX2 109 yX1_joinsIn, Cond.instanceMethod yX1_joinsIn, Cond.selects RX1 yX1_joinsIn yX1_joinsIn, Cond.code yX1_joinsIn cX1_joinsIn 3 (some .boolean), Cond.methodLink RX1 60 yX1_commutes]
def wsL_law_r12 : List Cond := [Cond.instanceMethod yX1_commutes, Cond.selects RX1 yX1_commutes yX1_commutes, Cond.code yX1_commutes cX1_commutes 3 (some .boolean), Cond.methodLink RX1 63 yX1_associates, Cond.instanceMethod yX1_associates, Cond.selects RX1 yX1_associates yX1_associates, Cond.code yX1_associates cX1_associates 5 (some .boolean), Cond.methodLink RX1 67 yX1_associatesWith, Cond.instanceMethod yX1_associatesWith, Cond.selects RX1 yX1_associatesWith yX1_associatesWith, Cond.code yX1_associatesWith cX1_associatesWith 5 (some .boolean), Cond.methodLink RX1 71 yX1_isOneProduct, Cond.instanceMethod yX1_isOneProduct, Cond.selects RX1 yX1_isOneProduct yX1_isOneProduct, Cond.code yX1_isOneProduct cX1_isOneProduct 4 (some .boolean), Cond.methodLink RL 58 yX3_joins, Cond.instanceMethod yX3_joins, Cond.selects RX3 yX3_joins yX3_joins, Cond.code yX3_joins cX3_joins 4 (some .int), Cond.methodLink RX3 73 yX3_joinsAll, Cond.instanceMethod yX3_joinsAll, Cond.selects RX3 yX3_joinsAll yX3_joinsAll, Cond.code yX3_joinsAll cX3_joinsAll 7 (some .boolean), Cond.methodLink RX3 69 yX3_joinsTwo]
def wsL_law_r13 : List Cond := [Cond.instanceMethod yX3_joinsTwo, Cond.selects RX3 yX3_joinsTwo yX3_joinsTwo, Cond.code yX3_joinsTwo cX3_joinsTwo 6 (some .boolean), Cond.methodLink RL 59 yX2_many, Cond.instanceMethod yX2_many, Cond.selects RX2 yX2_many yX2_many, Cond.code yX2_many cX2_many 6 (some .int), Cond.methodLink RL 62 yX3_many, Cond.instanceMethod yX3_many, Cond.selects RX3 yX3_many yX3_many, Cond.code yX3_many cX3_many 5 (some .int), Cond.methodLink RL 63 yX2_unlike, Cond.instanceMethod yX2_unlike, Cond.selects RX2 yX2_unlike yX2_unlike, Cond.code yX2_unlike cX2_unlike 3 (some .int), Cond.methodLink RX2 113 yX1_countUnlike, Cond.instanceMethod yX1_countUnlike, Cond.selects RX1 yX1_countUnlike yX1_countUnlike, Cond.code yX1_countUnlike cX1_countUnlike 4 (some .int), Cond.methodLink RL 66 yX3_unlike, Cond.instanceMethod yX3_unlike, Cond.selects RX3 yX3_unlike yX3_unlike, Cond.code yX3_unlike cX3_unlike 5 (some .int), Cond.methodLink RL 67 yX2_map]
def wsL_law_r14 : List Cond := [Cond.instanceMethod yX2_map, Cond.selects RX2 yX2_map yX2_map, Cond.code yX2_map cX2_map 6 (some .int), Cond.methodLink RX2 116 yX2_mapAt, Cond.instanceMethod yX2_mapAt, Cond.selects RX2 yX2_mapAt yX2_mapAt, Cond.code yX2_mapAt cX2_mapAt 2 (some (.array .int)), Cond.methodLink RX2 120 yX2_isMapNumber, Cond.static yX2_isMapNumber, Cond.code yX2_isMapNumber cX2_isMapNumber 1 (some .boolean), Cond.methodLink RL 70 yX3_map, Cond.instanceMethod yX3_map, Cond.selects RX3 yX3_map yX3_map, Cond.code yX3_map cX3_map 5 (some .int), Cond.methodLink RX3 76 yX3_isMap, Cond.static yX3_isMap, Cond.code yX3_isMap cX3_isMap 1 (some .boolean), Cond.methodLink RL 71 yX2_gives, Cond.instanceMethod yX2_gives, Cond.selects RX2 yX2_gives yX2_gives, Cond.code yX2_gives cX2_gives 4 (some .int), Cond.methodLink RX2 123 yX2_sumOf, Cond.static yX2_sumOf, Cond.code yX2_sumOf cX2_sumOf 4 (some .int)]
def wsL_law_r15 : List Cond := [Cond.methodLink RL 74 yX3_gives, Cond.instanceMethod yX3_gives, Cond.selects RX3 yX3_gives yX3_gives, Cond.code yX3_gives cX3_gives 3 (some .int), Cond.methodLink RX3 79 yX3_image, Cond.instanceMethod yX3_image, Cond.selects RX3 yX3_image yX3_image, Cond.code yX3_image cX3_image 5 (some .int), Cond.methodLink RL 75 yX2_fits, Cond.instanceMethod yX2_fits, Cond.selects RX2 yX2_fits yX2_fits, Cond.code yX2_fits cX2_fits 4 (some .int), Cond.methodLink RX2 127 yX2_isFit, Cond.static yX2_isFit, Cond.code yX2_isFit cX2_isFit 6 (some .boolean), Cond.methodLink RL 78 yX3_fits, Cond.instanceMethod yX3_fits, Cond.selects RX3 yX3_fits yX3_fits, Cond.code yX3_fits cX3_fits 3 (some .int), Cond.methodLink RX3 83 yX3_isFit, Cond.instanceMethod yX3_isFit, Cond.selects RX3 yX3_isFit yX3_isFit, Cond.code yX3_isFit cX3_isFit 5 (some .boolean), Cond.methodLink RL 79 yX2_alike]
def wsL_law_r16 : List Cond := [Cond.instanceMethod yX2_alike, Cond.selects RX2 yX2_alike yX2_alike, Cond.code yX2_alike cX2_alike 5 (some .int), Cond.methodLink RX2 131 yX2_allMapsFit, Cond.instanceMethod yX2_allMapsFit, Cond.selects RX2 yX2_allMapsFit yX2_allMapsFit, Cond.code yX2_allMapsFit cX2_allMapsFit 3 (some .boolean), Cond.methodLink RX2 134 yX2_mapsCarry, Cond.instanceMethod yX2_mapsCarry, Cond.selects RX2 yX2_mapsCarry yX2_mapsCarry, Cond.code yX2_mapsCarry cX2_mapsCarry 6 (some .boolean), Cond.methodLink RL 82 yX3_alike, Cond.instanceMethod yX3_alike, Cond.selects RX3 yX3_alike yX3_alike, Cond.code yX3_alike cX3_alike 6 (some .int), Cond.methodLink RL 83 yX2_carry, Cond.instanceMethod yX2_carry, Cond.selects RX2 yX2_carry yX2_carry, Cond.code yX2_carry cX2_carry 10 (some .int), Cond.methodLink RX2 138 yX2_sourceOf, Cond.static yX2_sourceOf, Cond.code yX2_sourceOf cX2_sourceOf 4 (some .int), Cond.methodLink RL 86 yX3_carry, Cond.instanceMethod yX3_carry]
def wsL_law_r17 : List Cond := [Cond.selects RX3 yX3_carry yX3_carry, Cond.code yX3_carry cX3_carry 6 (some .int), Cond.methodLink RX3 86 yX3_back, Cond.instanceMethod yX3_back, Cond.selects RX3 yX3_back yX3_back, Cond.code yX3_back cX3_back 4 (some .int), Cond.methodLink RL 87 yX2_ways, Cond.instanceMethod yX2_ways, Cond.selects RX2 yX2_ways yX2_ways, Cond.code yX2_ways cX2_ways 5 (some .int), Cond.methodLink RX2 142 yX2_countWays, Cond.instanceMethod yX2_countWays, Cond.selects RX2 yX2_countWays yX2_countWays, Cond.code yX2_countWays cX2_countWays 7 (some .int), Cond.methodLink RX2 192 yX2_readRow, Cond.static yX2_readRow, Cond.code yX2_readRow cX2_readRow 4 none, Cond.methodLink RX2 196 yX2_leavesWay, Cond.instanceMethod yX2_leavesWay, Cond.selects RX2 yX2_leavesWay yX2_leavesWay, Cond.code yX2_leavesWay cX2_leavesWay 7 (some .boolean), Cond.methodLink RX2 200 yX2_agrees, Cond.instanceMethod yX2_agrees, Cond.selects RX2 yX2_agrees yX2_agrees]
def wsL_law_r18 : List Cond := [Cond.code yX2_agrees cX2_agrees 6 (some .boolean), Cond.methodLink RL 90 yX3_ways, Cond.instanceMethod yX3_ways, Cond.selects RX3 yX3_ways yX3_ways, Cond.code yX3_ways cX3_ways 8 (some .int), Cond.methodLink RX3 89 yX3_lay, Cond.static yX3_lay, Cond.code yX3_lay cX3_lay 6 (some .boolean), Cond.methodLink RX3 93 yX3_hasThird, Cond.instanceMethod yX3_hasThird, Cond.selects RX3 yX3_hasThird yX3_hasThird, Cond.code yX3_hasThird cX3_hasThird 5 (some .boolean), Cond.methodLink RL 91 yX2_on, Cond.instanceMethod yX2_on, Cond.selects RX2 yX2_on yX2_on, Cond.code yX2_on cX2_on 5 (some .int), Cond.methodLink RX2 146 yX0_has, Cond.static yX0_has, Cond.initialized RX0, Cond.code yX0_has cX0_has 2 (some .boolean), Cond.methodLink RX0 9 yX0_lastOf, Cond.static yX0_lastOf, Cond.code yX0_lastOf cX0_lastOf 1 (some .int), Cond.methodLink RX0 21 yX0_insideOf]
def wsL_law_r19 : List Cond := [Cond.static yX0_insideOf, Cond.code yX0_insideOf cX0_insideOf 1 (some .int), Cond.methodLink RX0 15 yX1_size, Cond.methodLink RX2 151 yX0_lies, Cond.static yX0_lies, Cond.code yX0_lies cX0_lies 6 (some .boolean), Cond.methodLink RX0 27 yX0_highPart, Cond.static yX0_highPart, Cond.code yX0_highPart cX0_highPart 2 (some .int), Cond.methodLink RX0 24 yX1_bits, Cond.methodLink RX0 31 yX1_times, Cond.methodLink RX0 35 yX0_lowPart, Cond.static yX0_lowPart, Cond.code yX0_lowPart cX0_lowPart 2 (some .int), Cond.methodLink RL 94 yX3_on, Cond.instanceMethod yX3_on, Cond.selects RX3 yX3_on yX3_on, Cond.code yX3_on cX3_on 4 (some .int), Cond.methodLink RX3 96 yX3_isPlace, Cond.instanceMethod yX3_isPlace, Cond.selects RX3 yX3_isPlace yX3_isPlace, Cond.code yX3_isPlace cX3_isPlace 4 (some .boolean), Cond.methodLink RX3 99 yX3_isOn, Cond.instanceMethod yX3_isOn]
def wsL_law_r20 : List Cond := [Cond.selects RX3 yX3_isOn yX3_isOn, Cond.code yX3_isOn cX3_isOn 6 (some .boolean), Cond.methodLink RL 95 yX2_join, Cond.instanceMethod yX2_join, Cond.selects RX2 yX2_join yX2_join, Cond.code yX2_join cX2_join 5 (some .int), Cond.methodLink RX2 155 Lib.Math.min.name, Cond.static Lib.Math.min.name, Cond.initialized "java/lang/Math", Cond.code Lib.Math.min.name Lib.Math.min.code 2 (some .int), Cond.methodLink RX2 160 Lib.Math.max.name, Cond.static Lib.Math.max.name, Cond.code Lib.Math.max.name Lib.Math.max.code 2 (some .int), Cond.methodLink RX2 163 yX0_lineThrough, Cond.static yX0_lineThrough, Cond.code yX0_lineThrough cX0_lineThrough 8 (some .int), Cond.methodLink RX0 38 yX1_solve, Cond.methodLink RL 98 yX3_join, Cond.instanceMethod yX3_join, Cond.selects RX3 yX3_join yX3_join, Cond.code yX3_join cX3_join 4 (some .int), Cond.methodLink RX3 102 yX3_common, Cond.instanceMethod yX3_common, Cond.selects RX3 yX3_common yX3_common]
def wsL_law_r21 : List Cond := [Cond.code yX3_common cX3_common 8 (some .int), Cond.methodLink RL 99 yX2_meet, Cond.instanceMethod yX2_meet, Cond.selects RX2 yX2_meet yX2_meet, Cond.code yX2_meet cX2_meet 5 (some .int), Cond.methodLink RX2 167 yX0_pointOfBoth, Cond.static yX0_pointOfBoth, Cond.code yX0_pointOfBoth cX0_pointOfBoth 8 (some .int), Cond.methodLink RL 102 yX3_meet, Cond.instanceMethod yX3_meet, Cond.selects RX3 yX3_meet yX3_meet, Cond.code yX3_meet cX3_meet 4 (some .int), Cond.methodLink RL 103 yX2_bad, Cond.instanceMethod yX2_bad, Cond.selects RX2 yX2_bad yX2_bad, Cond.code yX2_bad cX2_bad 3 (some .int), Cond.methodLink RX2 170 yX0_countBadPairs, Cond.static yX0_countBadPairs, Cond.code yX0_countBadPairs cX0_countBadPairs 3 (some .int), Cond.methodLink RX0 42 yX1_leastPartner, Cond.methodLink RL 106 yX3_bad, Cond.instanceMethod yX3_bad, Cond.selects RX3 yX3_bad yX3_bad, Cond.code yX3_bad cX3_bad 8 (some .int)]
def wsL_law_r22 : List Cond := [Cond.methodLink RL 107 yX2_rank, Cond.instanceMethod yX2_rank, Cond.selects RX2 yX2_rank yX2_rank, Cond.code yX2_rank cX2_rank 4 (some .int), Cond.methodLink RX2 174 yX1_rankOf, Cond.instanceMethod yX1_rankOf, Cond.selects RX1 yX1_rankOf yX1_rankOf, Cond.code yX1_rankOf cX1_rankOf 5 (some .int), Cond.methodLink RX1 75 yJ6_bitCount_0f7a4, Cond.static yJ6_bitCount_0f7a4, Cond.initialized RJ6, Cond.code yJ6_bitCount_0f7a4 cJ6_bitCount_0f7a4 1 (some .int), Cond.constant RJ6 265 (1431655765), Cond.constant RJ6 266 (858993459), Cond.constant RJ6 267 (252645135), Cond.methodLink RL 110 yX3_rank, Cond.instanceMethod yX3_rank, Cond.selects RX3 yX3_rank yX3_rank, Cond.code yX3_rank cX3_rank 3 (some .int), Cond.methodLink RX3 106 yX3_rankOf, Cond.instanceMethod yX3_rankOf, Cond.selects RX3 yX3_rankOf yX3_rankOf, Cond.code yX3_rankOf cX3_rankOf 6 (some .int), Cond.methodLink RL 111 yX2_ranks]
def wsL_law_r23 : List Cond := [Cond.instanceMethod yX2_ranks, Cond.selects RX2 yX2_ranks yX2_ranks, Cond.code yX2_ranks cX2_ranks 6 (some .int), Cond.methodLink RL 114 yX3_ranks, Cond.instanceMethod yX3_ranks, Cond.selects RX3 yX3_ranks yX3_ranks, Cond.code yX3_ranks cX3_ranks 5 (some .int), Cond.methodLink RL 115 yX2_cubes, Cond.instanceMethod yX2_cubes, Cond.selects RX2 yX2_cubes yX2_cubes, Cond.code yX2_cubes cX2_cubes 5 (some .int), Cond.methodLink RX2 177 yX2_readCells, Cond.instanceMethod yX2_readCells, Cond.selects RX2 yX2_readCells yX2_readCells, Cond.code yX2_readCells cX2_readCells 6 none, Cond.methodLink RL 118 yX3_cubes, Cond.instanceMethod yX3_cubes, Cond.selects RX3 yX3_cubes yX3_cubes, Cond.code yX3_cubes cX3_cubes 5 (some .int)]
def wsL_law : List Cond := (wsL_law_r1 ++ (wsL_law_r2 ++ (wsL_law_r3 ++ (wsL_law_r4 ++ (wsL_law_r5 ++ (wsL_law_r6 ++ (wsL_law_r7 ++ (wsL_law_r8 ++ (wsL_law_r9 ++ (wsL_law_r10 ++ (wsL_law_r11 ++ (wsL_law_r12 ++ (wsL_law_r13 ++ (wsL_law_r14 ++ (wsL_law_r15 ++ (wsL_law_r16 ++ (wsL_law_r17 ++ (wsL_law_r18 ++ (wsL_law_r19 ++ (wsL_law_r20 ++ (wsL_law_r21 ++ (wsL_law_r22 ++ wsL_law_r23)))))))))))))))))))))) ++ wsX20 ++ wsX30 ++ wsX10 ++ ([] : List Cond)
set_option maxRecDepth 20000 in
theorem inX0 : ∀ w ∈ wsX00, w ∈ lw_tbl := by decide +kernel
theorem inJ6 : ∀ w ∈ wsJ60, w ∈ lw_tbl := by decide +kernel
theorem inJ9 : ∀ w ∈ wsJ90, w ∈ lw_tbl := by decide +kernel
end
section
set_option maxRecDepth 20000 in
theorem ggX0_has_X0_lastOf : GoodIn wsX0_has wsX0_lastOf := goodIn_r _ [4, 5, 6, 3, 7, 8, 9, 10, 11, 12, 13, 14, 15, 16, 17] (by decide +kernel) (by decide +kernel)
set_option maxRecDepth 20000 in
theorem gX0_has_X0_lastOf : GoodIn wsX0_has (va_wsS RX0 9 yX0_lastOf wsX0_lastOf) := goodIn_app (goodIn_of _ (by decide +kernel)) ggX0_has_X0_lastOf
theorem dX0_has_0 : decode cX0_has 0 = .ok (.iload_n 1, 1) := by decide +kernel
theorem dX0_has_1 : decode cX0_has 1 = .ok (.ifCond .lt 15, 3) := by decide +kernel
theorem dX0_has_4 : decode cX0_has 4 = .ok (.iload_n 1, 1) := by decide +kernel
theorem dX0_has_5 : decode cX0_has 5 = .ok (.aload_n 0, 1) := by decide +kernel
theorem dX0_has_6 : decode cX0_has 6 = .ok (.invokestatic 9, 3) := by decide +kernel
theorem dX0_has_9 : decode cX0_has 9 = .ok (.if_icmp .gt 7, 3) := by decide +kernel
theorem dX0_has_12 : decode cX0_has 12 = .ok (.iconst 1, 1) := by decide +kernel
theorem dX0_has_13 : decode cX0_has 13 = .ok (.goto 4, 3) := by decide +kernel
theorem dX0_has_16 : decode cX0_has 16 = .ok (.iconst 0, 1) := by decide +kernel
theorem dX0_has_17 : decode cX0_has 17 = .ok (.ireturn, 1) := by decide +kernel
set_option maxRecDepth 20000 in
theorem ggX0_insideOf_X1_size : GoodIn wsX0_insideOf wsX1_size := goodIn_r _ [5, 6, 7, 8, 9, 10] (by decide +kernel) (by decide +kernel)
set_option maxRecDepth 20000 in
theorem gX0_insideOf_X1_size : GoodIn wsX0_insideOf (wsV RX0 15 RX1 yX1_size wsX1_size) := goodIn_app (goodIn_of _ (by decide +kernel)) ggX0_insideOf_X1_size
theorem dX0_insideOf_0 : decode cX0_insideOf 0 = .ok (.aload_n 0, 1) := by decide +kernel
theorem dX0_insideOf_1 : decode cX0_insideOf 1 = .ok (.invokevirtual 15, 3) := by decide +kernel
theorem dX0_insideOf_4 : decode cX0_insideOf 4 = .ok (.aload_n 0, 1) := by decide +kernel
theorem dX0_insideOf_5 : decode cX0_insideOf 5 = .ok (.invokevirtual 15, 3) := by decide +kernel
theorem dX0_insideOf_8 : decode cX0_insideOf 8 = .ok (.imul, 1) := by decide +kernel
theorem dX0_insideOf_9 : decode cX0_insideOf 9 = .ok (.ireturn, 1) := by decide +kernel
set_option maxRecDepth 20000 in
theorem ggX0_lastOf_X0_insideOf : GoodIn wsX0_lastOf wsX0_insideOf := goodIn_r _ [4, 5, 6, 7, 8, 9, 10, 11, 12, 13, 14] (by decide +kernel) (by decide +kernel)
set_option maxRecDepth 20000 in
theorem gX0_lastOf_X0_insideOf : GoodIn wsX0_lastOf (va_wsS RX0 21 yX0_insideOf wsX0_insideOf) := goodIn_app (goodIn_of _ (by decide +kernel)) ggX0_lastOf_X0_insideOf
set_option maxRecDepth 20000 in
theorem ggX0_lastOf_X1_size : GoodIn wsX0_lastOf wsX1_size := goodIn_r _ [9, 10, 11, 12, 13, 14] (by decide +kernel) (by decide +kernel)
set_option maxRecDepth 20000 in
theorem gX0_lastOf_X1_size : GoodIn wsX0_lastOf (wsV RX0 15 RX1 yX1_size wsX1_size) := goodIn_app (goodIn_of _ (by decide +kernel)) ggX0_lastOf_X1_size
theorem dX0_lastOf_0 : decode cX0_lastOf 0 = .ok (.aload_n 0, 1) := by decide +kernel
theorem dX0_lastOf_1 : decode cX0_lastOf 1 = .ok (.invokestatic 21, 3) := by decide +kernel
theorem dX0_lastOf_4 : decode cX0_lastOf 4 = .ok (.aload_n 0, 1) := by decide +kernel
theorem dX0_lastOf_5 : decode cX0_lastOf 5 = .ok (.invokevirtual 15, 3) := by decide +kernel
theorem dX0_lastOf_8 : decode cX0_lastOf 8 = .ok (.iadd, 1) := by decide +kernel
theorem dX0_lastOf_9 : decode cX0_lastOf 9 = .ok (.ireturn, 1) := by decide +kernel
set_option maxRecDepth 20000 in
theorem ggX0_highPart_X1_bits : GoodIn wsX0_highPart wsX1_bits := goodIn_r _ [5, 6, 7, 8, 9, 10] (by decide +kernel) (by decide +kernel)
set_option maxRecDepth 20000 in
theorem gX0_highPart_X1_bits : GoodIn wsX0_highPart (wsV RX0 24 RX1 yX1_bits wsX1_bits) := goodIn_app (goodIn_of _ (by decide +kernel)) ggX0_highPart_X1_bits
theorem dX0_highPart_0 : decode cX0_highPart 0 = .ok (.iload_n 1, 1) := by decide +kernel
theorem dX0_highPart_1 : decode cX0_highPart 1 = .ok (.aload_n 0, 1) := by decide +kernel
theorem dX0_highPart_2 : decode cX0_highPart 2 = .ok (.invokevirtual 24, 3) := by decide +kernel
theorem dX0_highPart_5 : decode cX0_highPart 5 = .ok (.ishr, 1) := by decide +kernel
theorem dX0_highPart_6 : decode cX0_highPart 6 = .ok (.ireturn, 1) := by decide +kernel
set_option maxRecDepth 20000 in
theorem ggX0_lowPart_X1_size : GoodIn wsX0_lowPart wsX1_size := goodIn_r _ [5, 6, 7, 8, 9, 10] (by decide +kernel) (by decide +kernel)
set_option maxRecDepth 20000 in
theorem gX0_lowPart_X1_size : GoodIn wsX0_lowPart (wsV RX0 15 RX1 yX1_size wsX1_size) := goodIn_app (goodIn_of _ (by decide +kernel)) ggX0_lowPart_X1_size
theorem dX0_lowPart_0 : decode cX0_lowPart 0 = .ok (.iload_n 1, 1) := by decide +kernel
theorem dX0_lowPart_1 : decode cX0_lowPart 1 = .ok (.aload_n 0, 1) := by decide +kernel
theorem dX0_lowPart_2 : decode cX0_lowPart 2 = .ok (.invokevirtual 15, 3) := by decide +kernel
theorem dX0_lowPart_5 : decode cX0_lowPart 5 = .ok (.iconst 1, 1) := by decide +kernel
theorem dX0_lowPart_6 : decode cX0_lowPart 6 = .ok (.isub, 1) := by decide +kernel
theorem dX0_lowPart_7 : decode cX0_lowPart 7 = .ok (.iand, 1) := by decide +kernel
theorem dX0_lowPart_8 : decode cX0_lowPart 8 = .ok (.ireturn, 1) := by decide +kernel
set_option maxRecDepth 20000 in
theorem ggX0_lies_X0_insideOf : GoodIn wsX0_lies wsX0_insideOf := goodIn_r _ [4, 5, 6, 7, 8, 9, 10, 33, 34, 35, 36] (by decide +kernel) (by decide +kernel)
set_option maxRecDepth 20000 in
theorem gX0_lies_X0_insideOf : GoodIn wsX0_lies (va_wsS RX0 21 yX0_insideOf wsX0_insideOf) := goodIn_app (goodIn_of _ (by decide +kernel)) ggX0_lies_X0_insideOf
set_option maxRecDepth 20000 in
theorem ggX0_lies_X0_lastOf : GoodIn wsX0_lies wsX0_lastOf := goodIn_r _ [13, 1, 2, 3, 4, 5, 6, 7, 8, 9, 10, 33, 34, 35, 36] (by decide +kernel) (by decide +kernel)
set_option maxRecDepth 20000 in
theorem gX0_lies_X0_lastOf : GoodIn wsX0_lies (va_wsS RX0 9 yX0_lastOf wsX0_lastOf) := goodIn_app (goodIn_of _ (by decide +kernel)) ggX0_lies_X0_lastOf
set_option maxRecDepth 20000 in
theorem ggX0_lies_X0_highPart : GoodIn wsX0_lies wsX0_highPart := goodIn_r _ [16, 17, 18, 19, 8, 20, 21, 33, 34, 35, 36] (by decide +kernel) (by decide +kernel)
set_option maxRecDepth 20000 in
theorem gX0_lies_X0_highPart : GoodIn wsX0_lies (va_wsS RX0 27 yX0_highPart wsX0_highPart) := goodIn_app (goodIn_of _ (by decide +kernel)) ggX0_lies_X0_highPart
set_option maxRecDepth 20000 in
theorem ggX0_lies_X1_times : GoodIn wsX0_lies wsX1_times := goodIn_r _ [25, 26, 27, 28, 8, 29, 33, 34, 35, 36] (by decide +kernel) (by decide +kernel)
set_option maxRecDepth 20000 in
theorem gX0_lies_X1_times : GoodIn wsX0_lies (wsV RX0 31 RX1 yX1_times wsX1_times) := goodIn_app (goodIn_of _ (by decide +kernel)) ggX0_lies_X1_times
set_option maxRecDepth 20000 in
theorem ggX0_lies_X0_lowPart : GoodIn wsX0_lies wsX0_lowPart := goodIn_r _ [32, 5, 6, 7, 8, 9, 10, 33, 34, 35, 36] (by decide +kernel) (by decide +kernel)
set_option maxRecDepth 20000 in
theorem gX0_lies_X0_lowPart : GoodIn wsX0_lies (va_wsS RX0 35 yX0_lowPart wsX0_lowPart) := goodIn_app (goodIn_of _ (by decide +kernel)) ggX0_lies_X0_lowPart
theorem dX0_lies_0 : decode cX0_lies 0 = .ok (.aload_n 0, 1) := by decide +kernel
theorem dX0_lies_1 : decode cX0_lies 1 = .ok (.invokestatic 21, 3) := by decide +kernel
theorem dX0_lies_4 : decode cX0_lies 4 = .ok (.istore_n 3, 1) := by decide +kernel
theorem dX0_lies_5 : decode cX0_lies 5 = .ok (.aload_n 0, 1) := by decide +kernel
theorem dX0_lies_6 : decode cX0_lies 6 = .ok (.invokestatic 9, 3) := by decide +kernel
theorem dX0_lies_9 : decode cX0_lies 9 = .ok (.istore 4, 2) := by decide +kernel
theorem dX0_lies_11 : decode cX0_lies 11 = .ok (.iload_n 2, 1) := by decide +kernel
theorem dX0_lies_12 : decode cX0_lies 12 = .ok (.iload 4, 2) := by decide +kernel
theorem dX0_lies_14 : decode cX0_lies 14 = .ok (.if_icmp .ne 14, 3) := by decide +kernel
theorem dX0_lies_17 : decode cX0_lies 17 = .ok (.iload_n 1, 1) := by decide +kernel
theorem dX0_lies_18 : decode cX0_lies 18 = .ok (.iload_n 3, 1) := by decide +kernel
theorem dX0_lies_19 : decode cX0_lies 19 = .ok (.if_icmp .lt 7, 3) := by decide +kernel
theorem dX0_lies_22 : decode cX0_lies 22 = .ok (.iconst 1, 1) := by decide +kernel
theorem dX0_lies_23 : decode cX0_lies 23 = .ok (.goto 4, 3) := by decide +kernel
theorem dX0_lies_26 : decode cX0_lies 26 = .ok (.iconst 0, 1) := by decide +kernel
theorem dX0_lies_27 : decode cX0_lies 27 = .ok (.ireturn, 1) := by decide +kernel
theorem dX0_lies_28 : decode cX0_lies 28 = .ok (.iload_n 2, 1) := by decide +kernel
theorem dX0_lies_29 : decode cX0_lies 29 = .ok (.iload_n 3, 1) := by decide +kernel
theorem dX0_lies_30 : decode cX0_lies 30 = .ok (.if_icmp .lt 26, 3) := by decide +kernel
theorem dX0_lies_33 : decode cX0_lies 33 = .ok (.iload_n 1, 1) := by decide +kernel
theorem dX0_lies_34 : decode cX0_lies 34 = .ok (.iload 4, 2) := by decide +kernel
theorem dX0_lies_36 : decode cX0_lies 36 = .ok (.if_icmp .eq 14, 3) := by decide +kernel
theorem dX0_lies_39 : decode cX0_lies 39 = .ok (.aload_n 0, 1) := by decide +kernel
theorem dX0_lies_40 : decode cX0_lies 40 = .ok (.iload_n 1, 1) := by decide +kernel
theorem dX0_lies_41 : decode cX0_lies 41 = .ok (.invokestatic 27, 3) := by decide +kernel
theorem dX0_lies_44 : decode cX0_lies 44 = .ok (.iload_n 2, 1) := by decide +kernel
theorem dX0_lies_45 : decode cX0_lies 45 = .ok (.iload_n 3, 1) := by decide +kernel
theorem dX0_lies_46 : decode cX0_lies 46 = .ok (.isub, 1) := by decide +kernel
theorem dX0_lies_47 : decode cX0_lies 47 = .ok (.if_icmp .ne 7, 3) := by decide +kernel
theorem dX0_lies_50 : decode cX0_lies 50 = .ok (.iconst 1, 1) := by decide +kernel
theorem dX0_lies_51 : decode cX0_lies 51 = .ok (.goto 4, 3) := by decide +kernel
theorem dX0_lies_54 : decode cX0_lies 54 = .ok (.iconst 0, 1) := by decide +kernel
theorem dX0_lies_55 : decode cX0_lies 55 = .ok (.ireturn, 1) := by decide +kernel
theorem dX0_lies_56 : decode cX0_lies 56 = .ok (.aload_n 0, 1) := by decide +kernel
theorem dX0_lies_57 : decode cX0_lies 57 = .ok (.iload_n 2, 1) := by decide +kernel
theorem dX0_lies_58 : decode cX0_lies 58 = .ok (.invokestatic 27, 3) := by decide +kernel
theorem dX0_lies_61 : decode cX0_lies 61 = .ok (.istore 5, 2) := by decide +kernel
theorem dX0_lies_63 : decode cX0_lies 63 = .ok (.iload_n 1, 1) := by decide +kernel
theorem dX0_lies_64 : decode cX0_lies 64 = .ok (.iload_n 3, 1) := by decide +kernel
theorem dX0_lies_65 : decode cX0_lies 65 = .ok (.if_icmp .lt 17, 3) := by decide +kernel
theorem dX0_lies_68 : decode cX0_lies 68 = .ok (.iload_n 1, 1) := by decide +kernel
theorem dX0_lies_69 : decode cX0_lies 69 = .ok (.iload_n 3, 1) := by decide +kernel
theorem dX0_lies_70 : decode cX0_lies 70 = .ok (.iload 5, 2) := by decide +kernel
theorem dX0_lies_72 : decode cX0_lies 72 = .ok (.iadd, 1) := by decide +kernel
theorem dX0_lies_73 : decode cX0_lies 73 = .ok (.if_icmp .ne 7, 3) := by decide +kernel
theorem dX0_lies_76 : decode cX0_lies 76 = .ok (.iconst 1, 1) := by decide +kernel
theorem dX0_lies_77 : decode cX0_lies 77 = .ok (.goto 4, 3) := by decide +kernel
theorem dX0_lies_80 : decode cX0_lies 80 = .ok (.iconst 0, 1) := by decide +kernel
theorem dX0_lies_81 : decode cX0_lies 81 = .ok (.ireturn, 1) := by decide +kernel
theorem dX0_lies_82 : decode cX0_lies 82 = .ok (.aload_n 0, 1) := by decide +kernel
theorem dX0_lies_83 : decode cX0_lies 83 = .ok (.iload 5, 2) := by decide +kernel
theorem dX0_lies_85 : decode cX0_lies 85 = .ok (.aload_n 0, 1) := by decide +kernel
theorem dX0_lies_86 : decode cX0_lies 86 = .ok (.iload_n 1, 1) := by decide +kernel
theorem dX0_lies_87 : decode cX0_lies 87 = .ok (.invokestatic 27, 3) := by decide +kernel
theorem dX0_lies_90 : decode cX0_lies 90 = .ok (.invokevirtual 31, 3) := by decide +kernel
theorem dX0_lies_93 : decode cX0_lies 93 = .ok (.aload_n 0, 1) := by decide +kernel
theorem dX0_lies_94 : decode cX0_lies 94 = .ok (.iload_n 2, 1) := by decide +kernel
theorem dX0_lies_95 : decode cX0_lies 95 = .ok (.invokestatic 35, 3) := by decide +kernel
theorem dX0_lies_98 : decode cX0_lies 98 = .ok (.ixor, 1) := by decide +kernel
theorem dX0_lies_99 : decode cX0_lies 99 = .ok (.aload_n 0, 1) := by decide +kernel
theorem dX0_lies_100 : decode cX0_lies 100 = .ok (.iload_n 1, 1) := by decide +kernel
theorem dX0_lies_101 : decode cX0_lies 101 = .ok (.invokestatic 35, 3) := by decide +kernel
theorem dX0_lies_104 : decode cX0_lies 104 = .ok (.if_icmp .ne 7, 3) := by decide +kernel
theorem dX0_lies_107 : decode cX0_lies 107 = .ok (.iconst 1, 1) := by decide +kernel
theorem dX0_lies_108 : decode cX0_lies 108 = .ok (.goto 4, 3) := by decide +kernel
theorem dX0_lies_111 : decode cX0_lies 111 = .ok (.iconst 0, 1) := by decide +kernel
theorem dX0_lies_112 : decode cX0_lies 112 = .ok (.ireturn, 1) := by decide +kernel
set_option maxRecDepth 20000 in
theorem ggX0_lineThrough_X0_insideOf : GoodIn wsX0_lineThrough wsX0_insideOf := goodIn_r _ [4, 5, 6, 7, 8, 9, 10, 38, 39, 40, 41] (by decide +kernel) (by decide +kernel)
set_option maxRecDepth 20000 in
theorem gX0_lineThrough_X0_insideOf : GoodIn wsX0_lineThrough (va_wsS RX0 21 yX0_insideOf wsX0_insideOf) := goodIn_app (goodIn_of _ (by decide +kernel)) ggX0_lineThrough_X0_insideOf
set_option maxRecDepth 20000 in
theorem ggX0_lineThrough_X0_lastOf : GoodIn wsX0_lineThrough wsX0_lastOf := goodIn_r _ [13, 1, 2, 3, 4, 5, 6, 7, 8, 9, 10, 38, 39, 40, 41] (by decide +kernel) (by decide +kernel)
set_option maxRecDepth 20000 in
theorem gX0_lineThrough_X0_lastOf : GoodIn wsX0_lineThrough (va_wsS RX0 9 yX0_lastOf wsX0_lastOf) := goodIn_app (goodIn_of _ (by decide +kernel)) ggX0_lineThrough_X0_lastOf
set_option maxRecDepth 20000 in
theorem ggX0_lineThrough_X0_highPart : GoodIn wsX0_lineThrough wsX0_highPart := goodIn_r _ [16, 17, 18, 19, 8, 20, 21, 38, 39, 40, 41] (by decide +kernel) (by decide +kernel)
set_option maxRecDepth 20000 in
theorem gX0_lineThrough_X0_highPart : GoodIn wsX0_lineThrough (va_wsS RX0 27 yX0_highPart wsX0_highPart) := goodIn_app (goodIn_of _ (by decide +kernel)) ggX0_lineThrough_X0_highPart
set_option maxRecDepth 20000 in
theorem ggX0_lineThrough_X0_lowPart : GoodIn wsX0_lineThrough wsX0_lowPart := goodIn_r _ [24, 5, 6, 7, 8, 9, 10, 38, 39, 40, 41] (by decide +kernel) (by decide +kernel)
set_option maxRecDepth 20000 in
theorem gX0_lineThrough_X0_lowPart : GoodIn wsX0_lineThrough (va_wsS RX0 35 yX0_lowPart wsX0_lowPart) := goodIn_app (goodIn_of _ (by decide +kernel)) ggX0_lineThrough_X0_lowPart
set_option maxRecDepth 20000 in
theorem ggX0_lineThrough_X1_solve : GoodIn wsX0_lineThrough wsX1_solve := goodIn_r _ [28, 10, 29, 30, 31, 8, 32, 33, 34, 35, 36, 38, 39, 40, 41] (by decide +kernel) (by decide +kernel)
set_option maxRecDepth 20000 in
theorem gX0_lineThrough_X1_solve : GoodIn wsX0_lineThrough (wsV RX0 38 RX1 yX1_solve wsX1_solve) := goodIn_app (goodIn_of _ (by decide +kernel)) ggX0_lineThrough_X1_solve
set_option maxRecDepth 20000 in
theorem ggX0_lineThrough_X1_bits : GoodIn wsX0_lineThrough wsX1_bits := goodIn_r _ [20, 21, 38, 39, 40, 41] (by decide +kernel) (by decide +kernel)
set_option maxRecDepth 20000 in
theorem gX0_lineThrough_X1_bits : GoodIn wsX0_lineThrough (wsV RX0 24 RX1 yX1_bits wsX1_bits) := goodIn_app (goodIn_of _ (by decide +kernel)) ggX0_lineThrough_X1_bits
set_option maxRecDepth 20000 in
theorem ggX0_lineThrough_X1_times : GoodIn wsX0_lineThrough wsX1_times := goodIn_r _ [32, 33, 34, 35, 8, 36, 38, 39, 40, 41] (by decide +kernel) (by decide +kernel)
set_option maxRecDepth 20000 in
theorem gX0_lineThrough_X1_times : GoodIn wsX0_lineThrough (wsV RX0 31 RX1 yX1_times wsX1_times) := goodIn_app (goodIn_of _ (by decide +kernel)) ggX0_lineThrough_X1_times
theorem dX0_lineThrough_0 : decode cX0_lineThrough 0 = .ok (.aload_n 0, 1) := by decide +kernel
theorem dX0_lineThrough_1 : decode cX0_lineThrough 1 = .ok (.invokestatic 21, 3) := by decide +kernel
theorem dX0_lineThrough_4 : decode cX0_lineThrough 4 = .ok (.istore_n 3, 1) := by decide +kernel
theorem dX0_lineThrough_5 : decode cX0_lineThrough 5 = .ok (.aload_n 0, 1) := by decide +kernel
theorem dX0_lineThrough_6 : decode cX0_lineThrough 6 = .ok (.invokestatic 9, 3) := by decide +kernel
theorem dX0_lineThrough_9 : decode cX0_lineThrough 9 = .ok (.istore 4, 2) := by decide +kernel
theorem dX0_lineThrough_11 : decode cX0_lineThrough 11 = .ok (.iload_n 1, 1) := by decide +kernel
theorem dX0_lineThrough_12 : decode cX0_lineThrough 12 = .ok (.iload_n 3, 1) := by decide +kernel
theorem dX0_lineThrough_13 : decode cX0_lineThrough 13 = .ok (.if_icmp .lt 6, 3) := by decide +kernel
theorem dX0_lineThrough_16 : decode cX0_lineThrough 16 = .ok (.iload 4, 2) := by decide +kernel
theorem dX0_lineThrough_18 : decode cX0_lineThrough 18 = .ok (.ireturn, 1) := by decide +kernel
theorem dX0_lineThrough_19 : decode cX0_lineThrough 19 = .ok (.aload_n 0, 1) := by decide +kernel
theorem dX0_lineThrough_20 : decode cX0_lineThrough 20 = .ok (.iload_n 1, 1) := by decide +kernel
theorem dX0_lineThrough_21 : decode cX0_lineThrough 21 = .ok (.invokestatic 27, 3) := by decide +kernel
theorem dX0_lineThrough_24 : decode cX0_lineThrough 24 = .ok (.istore 5, 2) := by decide +kernel
theorem dX0_lineThrough_26 : decode cX0_lineThrough 26 = .ok (.iload_n 2, 1) := by decide +kernel
theorem dX0_lineThrough_27 : decode cX0_lineThrough 27 = .ok (.iload 4, 2) := by decide +kernel
theorem dX0_lineThrough_29 : decode cX0_lineThrough 29 = .ok (.if_icmp .eq 13, 3) := by decide +kernel
theorem dX0_lineThrough_32 : decode cX0_lineThrough 32 = .ok (.aload_n 0, 1) := by decide +kernel
theorem dX0_lineThrough_33 : decode cX0_lineThrough 33 = .ok (.iload_n 2, 1) := by decide +kernel
theorem dX0_lineThrough_34 : decode cX0_lineThrough 34 = .ok (.invokestatic 27, 3) := by decide +kernel
theorem dX0_lineThrough_37 : decode cX0_lineThrough 37 = .ok (.iload 5, 2) := by decide +kernel
theorem dX0_lineThrough_39 : decode cX0_lineThrough 39 = .ok (.if_icmp .ne 8, 3) := by decide +kernel
theorem dX0_lineThrough_42 : decode cX0_lineThrough 42 = .ok (.iload_n 3, 1) := by decide +kernel
theorem dX0_lineThrough_43 : decode cX0_lineThrough 43 = .ok (.iload 5, 2) := by decide +kernel
theorem dX0_lineThrough_45 : decode cX0_lineThrough 45 = .ok (.iadd, 1) := by decide +kernel
theorem dX0_lineThrough_46 : decode cX0_lineThrough 46 = .ok (.ireturn, 1) := by decide +kernel
theorem dX0_lineThrough_47 : decode cX0_lineThrough 47 = .ok (.iload_n 2, 1) := by decide +kernel
theorem dX0_lineThrough_48 : decode cX0_lineThrough 48 = .ok (.iload_n 3, 1) := by decide +kernel
theorem dX0_lineThrough_49 : decode cX0_lineThrough 49 = .ok (.isub, 1) := by decide +kernel
theorem dX0_lineThrough_50 : decode cX0_lineThrough 50 = .ok (.istore 6, 2) := by decide +kernel
theorem dX0_lineThrough_52 : decode cX0_lineThrough 52 = .ok (.iload_n 2, 1) := by decide +kernel
theorem dX0_lineThrough_53 : decode cX0_lineThrough 53 = .ok (.iload_n 3, 1) := by decide +kernel
theorem dX0_lineThrough_54 : decode cX0_lineThrough 54 = .ok (.if_icmp .ge 33, 3) := by decide +kernel
theorem dX0_lineThrough_57 : decode cX0_lineThrough 57 = .ok (.aload_n 0, 1) := by decide +kernel
theorem dX0_lineThrough_58 : decode cX0_lineThrough 58 = .ok (.iload_n 1, 1) := by decide +kernel
theorem dX0_lineThrough_59 : decode cX0_lineThrough 59 = .ok (.invokestatic 35, 3) := by decide +kernel
theorem dX0_lineThrough_62 : decode cX0_lineThrough 62 = .ok (.aload_n 0, 1) := by decide +kernel
theorem dX0_lineThrough_63 : decode cX0_lineThrough 63 = .ok (.iload_n 2, 1) := by decide +kernel
theorem dX0_lineThrough_64 : decode cX0_lineThrough 64 = .ok (.invokestatic 35, 3) := by decide +kernel
theorem dX0_lineThrough_67 : decode cX0_lineThrough 67 = .ok (.ixor, 1) := by decide +kernel
theorem dX0_lineThrough_68 : decode cX0_lineThrough 68 = .ok (.istore 7, 2) := by decide +kernel
theorem dX0_lineThrough_70 : decode cX0_lineThrough 70 = .ok (.aload_n 0, 1) := by decide +kernel
theorem dX0_lineThrough_71 : decode cX0_lineThrough 71 = .ok (.iload 5, 2) := by decide +kernel
theorem dX0_lineThrough_73 : decode cX0_lineThrough 73 = .ok (.aload_n 0, 1) := by decide +kernel
theorem dX0_lineThrough_74 : decode cX0_lineThrough 74 = .ok (.iload_n 2, 1) := by decide +kernel
theorem dX0_lineThrough_75 : decode cX0_lineThrough 75 = .ok (.invokestatic 27, 3) := by decide +kernel
theorem dX0_lineThrough_78 : decode cX0_lineThrough 78 = .ok (.ixor, 1) := by decide +kernel
theorem dX0_lineThrough_79 : decode cX0_lineThrough 79 = .ok (.iload 7, 2) := by decide +kernel
theorem dX0_lineThrough_81 : decode cX0_lineThrough 81 = .ok (.iconst 0, 1) := by decide +kernel
theorem dX0_lineThrough_82 : decode cX0_lineThrough 82 = .ok (.invokevirtual 38, 3) := by decide +kernel
theorem dX0_lineThrough_85 : decode cX0_lineThrough 85 = .ok (.istore 6, 2) := by decide +kernel
theorem dX0_lineThrough_87 : decode cX0_lineThrough 87 = .ok (.iload 6, 2) := by decide +kernel
theorem dX0_lineThrough_89 : decode cX0_lineThrough 89 = .ok (.bipush (-9), 2) := by decide +kernel
theorem dX0_lineThrough_91 : decode cX0_lineThrough 91 = .ok (.if_icmp .ne 8, 3) := by decide +kernel
theorem dX0_lineThrough_94 : decode cX0_lineThrough 94 = .ok (.bipush (-9), 2) := by decide +kernel
theorem dX0_lineThrough_96 : decode cX0_lineThrough 96 = .ok (.goto 25, 3) := by decide +kernel
theorem dX0_lineThrough_99 : decode cX0_lineThrough 99 = .ok (.iload 6, 2) := by decide +kernel
theorem dX0_lineThrough_101 : decode cX0_lineThrough 101 = .ok (.aload_n 0, 1) := by decide +kernel
theorem dX0_lineThrough_102 : decode cX0_lineThrough 102 = .ok (.invokevirtual 24, 3) := by decide +kernel
theorem dX0_lineThrough_105 : decode cX0_lineThrough 105 = .ok (.ishl, 1) := by decide +kernel
theorem dX0_lineThrough_106 : decode cX0_lineThrough 106 = .ok (.aload_n 0, 1) := by decide +kernel
theorem dX0_lineThrough_107 : decode cX0_lineThrough 107 = .ok (.iload 6, 2) := by decide +kernel
theorem dX0_lineThrough_109 : decode cX0_lineThrough 109 = .ok (.iload 5, 2) := by decide +kernel
theorem dX0_lineThrough_111 : decode cX0_lineThrough 111 = .ok (.invokevirtual 31, 3) := by decide +kernel
theorem dX0_lineThrough_114 : decode cX0_lineThrough 114 = .ok (.aload_n 0, 1) := by decide +kernel
theorem dX0_lineThrough_115 : decode cX0_lineThrough 115 = .ok (.iload_n 1, 1) := by decide +kernel
theorem dX0_lineThrough_116 : decode cX0_lineThrough 116 = .ok (.invokestatic 35, 3) := by decide +kernel
theorem dX0_lineThrough_119 : decode cX0_lineThrough 119 = .ok (.ixor, 1) := by decide +kernel
theorem dX0_lineThrough_120 : decode cX0_lineThrough 120 = .ok (.ior, 1) := by decide +kernel
theorem dX0_lineThrough_121 : decode cX0_lineThrough 121 = .ok (.ireturn, 1) := by decide +kernel
set_option maxRecDepth 20000 in
theorem ggX0_pointOfBoth_X0_insideOf : GoodIn wsX0_pointOfBoth wsX0_insideOf := goodIn_r _ [4, 5, 6, 7, 8, 9, 10, 38, 39, 40, 41] (by decide +kernel) (by decide +kernel)
set_option maxRecDepth 20000 in
theorem gX0_pointOfBoth_X0_insideOf : GoodIn wsX0_pointOfBoth (va_wsS RX0 21 yX0_insideOf wsX0_insideOf) := goodIn_app (goodIn_of _ (by decide +kernel)) ggX0_pointOfBoth_X0_insideOf
set_option maxRecDepth 20000 in
theorem ggX0_pointOfBoth_X0_lastOf : GoodIn wsX0_pointOfBoth wsX0_lastOf := goodIn_r _ [13, 1, 2, 3, 4, 5, 6, 7, 8, 9, 10, 38, 39, 40, 41] (by decide +kernel) (by decide +kernel)
set_option maxRecDepth 20000 in
theorem gX0_pointOfBoth_X0_lastOf : GoodIn wsX0_pointOfBoth (va_wsS RX0 9 yX0_lastOf wsX0_lastOf) := goodIn_app (goodIn_of _ (by decide +kernel)) ggX0_pointOfBoth_X0_lastOf
set_option maxRecDepth 20000 in
theorem ggX0_pointOfBoth_X0_highPart : GoodIn wsX0_pointOfBoth wsX0_highPart := goodIn_r _ [16, 17, 18, 19, 8, 20, 21, 38, 39, 40, 41] (by decide +kernel) (by decide +kernel)
set_option maxRecDepth 20000 in
theorem gX0_pointOfBoth_X0_highPart : GoodIn wsX0_pointOfBoth (va_wsS RX0 27 yX0_highPart wsX0_highPart) := goodIn_app (goodIn_of _ (by decide +kernel)) ggX0_pointOfBoth_X0_highPart
set_option maxRecDepth 20000 in
theorem ggX0_pointOfBoth_X0_lowPart : GoodIn wsX0_pointOfBoth wsX0_lowPart := goodIn_r _ [24, 5, 6, 7, 8, 9, 10, 38, 39, 40, 41] (by decide +kernel) (by decide +kernel)
set_option maxRecDepth 20000 in
theorem gX0_pointOfBoth_X0_lowPart : GoodIn wsX0_pointOfBoth (va_wsS RX0 35 yX0_lowPart wsX0_lowPart) := goodIn_app (goodIn_of _ (by decide +kernel)) ggX0_pointOfBoth_X0_lowPart
set_option maxRecDepth 20000 in
theorem ggX0_pointOfBoth_X1_solve : GoodIn wsX0_pointOfBoth wsX1_solve := goodIn_r _ [28, 10, 29, 30, 31, 8, 32, 33, 34, 35, 36, 38, 39, 40, 41] (by decide +kernel) (by decide +kernel)
set_option maxRecDepth 20000 in
theorem gX0_pointOfBoth_X1_solve : GoodIn wsX0_pointOfBoth (wsV RX0 38 RX1 yX1_solve wsX1_solve) := goodIn_app (goodIn_of _ (by decide +kernel)) ggX0_pointOfBoth_X1_solve
set_option maxRecDepth 20000 in
theorem ggX0_pointOfBoth_X1_bits : GoodIn wsX0_pointOfBoth wsX1_bits := goodIn_r _ [20, 21, 38, 39, 40, 41] (by decide +kernel) (by decide +kernel)
set_option maxRecDepth 20000 in
theorem gX0_pointOfBoth_X1_bits : GoodIn wsX0_pointOfBoth (wsV RX0 24 RX1 yX1_bits wsX1_bits) := goodIn_app (goodIn_of _ (by decide +kernel)) ggX0_pointOfBoth_X1_bits
set_option maxRecDepth 20000 in
theorem ggX0_pointOfBoth_X1_times : GoodIn wsX0_pointOfBoth wsX1_times := goodIn_r _ [32, 33, 34, 35, 8, 36, 38, 39, 40, 41] (by decide +kernel) (by decide +kernel)
set_option maxRecDepth 20000 in
theorem gX0_pointOfBoth_X1_times : GoodIn wsX0_pointOfBoth (wsV RX0 31 RX1 yX1_times wsX1_times) := goodIn_app (goodIn_of _ (by decide +kernel)) ggX0_pointOfBoth_X1_times
theorem dX0_pointOfBoth_0 : decode cX0_pointOfBoth 0 = .ok (.aload_n 0, 1) := by decide +kernel
theorem dX0_pointOfBoth_1 : decode cX0_pointOfBoth 1 = .ok (.invokestatic 21, 3) := by decide +kernel
theorem dX0_pointOfBoth_4 : decode cX0_pointOfBoth 4 = .ok (.istore_n 3, 1) := by decide +kernel
theorem dX0_pointOfBoth_5 : decode cX0_pointOfBoth 5 = .ok (.aload_n 0, 1) := by decide +kernel
theorem dX0_pointOfBoth_6 : decode cX0_pointOfBoth 6 = .ok (.invokestatic 9, 3) := by decide +kernel
theorem dX0_pointOfBoth_9 : decode cX0_pointOfBoth 9 = .ok (.istore 4, 2) := by decide +kernel
theorem dX0_pointOfBoth_11 : decode cX0_pointOfBoth 11 = .ok (.iload_n 1, 1) := by decide +kernel
theorem dX0_pointOfBoth_12 : decode cX0_pointOfBoth 12 = .ok (.iload_n 3, 1) := by decide +kernel
theorem dX0_pointOfBoth_13 : decode cX0_pointOfBoth 13 = .ok (.if_icmp .lt 6, 3) := by decide +kernel
theorem dX0_pointOfBoth_16 : decode cX0_pointOfBoth 16 = .ok (.iload 4, 2) := by decide +kernel
theorem dX0_pointOfBoth_18 : decode cX0_pointOfBoth 18 = .ok (.ireturn, 1) := by decide +kernel
theorem dX0_pointOfBoth_19 : decode cX0_pointOfBoth 19 = .ok (.aload_n 0, 1) := by decide +kernel
theorem dX0_pointOfBoth_20 : decode cX0_pointOfBoth 20 = .ok (.iload_n 1, 1) := by decide +kernel
theorem dX0_pointOfBoth_21 : decode cX0_pointOfBoth 21 = .ok (.invokestatic 27, 3) := by decide +kernel
theorem dX0_pointOfBoth_24 : decode cX0_pointOfBoth 24 = .ok (.istore 5, 2) := by decide +kernel
theorem dX0_pointOfBoth_26 : decode cX0_pointOfBoth 26 = .ok (.iload_n 2, 1) := by decide +kernel
theorem dX0_pointOfBoth_27 : decode cX0_pointOfBoth 27 = .ok (.iload 4, 2) := by decide +kernel
theorem dX0_pointOfBoth_29 : decode cX0_pointOfBoth 29 = .ok (.if_icmp .eq 13, 3) := by decide +kernel
theorem dX0_pointOfBoth_32 : decode cX0_pointOfBoth 32 = .ok (.aload_n 0, 1) := by decide +kernel
theorem dX0_pointOfBoth_33 : decode cX0_pointOfBoth 33 = .ok (.iload_n 2, 1) := by decide +kernel
theorem dX0_pointOfBoth_34 : decode cX0_pointOfBoth 34 = .ok (.invokestatic 27, 3) := by decide +kernel
theorem dX0_pointOfBoth_37 : decode cX0_pointOfBoth 37 = .ok (.iload 5, 2) := by decide +kernel
theorem dX0_pointOfBoth_39 : decode cX0_pointOfBoth 39 = .ok (.if_icmp .ne 8, 3) := by decide +kernel
theorem dX0_pointOfBoth_42 : decode cX0_pointOfBoth 42 = .ok (.iload_n 3, 1) := by decide +kernel
theorem dX0_pointOfBoth_43 : decode cX0_pointOfBoth 43 = .ok (.iload 5, 2) := by decide +kernel
theorem dX0_pointOfBoth_45 : decode cX0_pointOfBoth 45 = .ok (.iadd, 1) := by decide +kernel
theorem dX0_pointOfBoth_46 : decode cX0_pointOfBoth 46 = .ok (.ireturn, 1) := by decide +kernel
theorem dX0_pointOfBoth_47 : decode cX0_pointOfBoth 47 = .ok (.iload_n 2, 1) := by decide +kernel
theorem dX0_pointOfBoth_48 : decode cX0_pointOfBoth 48 = .ok (.iload_n 3, 1) := by decide +kernel
theorem dX0_pointOfBoth_49 : decode cX0_pointOfBoth 49 = .ok (.isub, 1) := by decide +kernel
theorem dX0_pointOfBoth_50 : decode cX0_pointOfBoth 50 = .ok (.istore 6, 2) := by decide +kernel
theorem dX0_pointOfBoth_52 : decode cX0_pointOfBoth 52 = .ok (.iload_n 2, 1) := by decide +kernel
theorem dX0_pointOfBoth_53 : decode cX0_pointOfBoth 53 = .ok (.iload_n 3, 1) := by decide +kernel
theorem dX0_pointOfBoth_54 : decode cX0_pointOfBoth 54 = .ok (.if_icmp .ge 33, 3) := by decide +kernel
theorem dX0_pointOfBoth_57 : decode cX0_pointOfBoth 57 = .ok (.aload_n 0, 1) := by decide +kernel
theorem dX0_pointOfBoth_58 : decode cX0_pointOfBoth 58 = .ok (.iload_n 1, 1) := by decide +kernel
theorem dX0_pointOfBoth_59 : decode cX0_pointOfBoth 59 = .ok (.invokestatic 35, 3) := by decide +kernel
theorem dX0_pointOfBoth_62 : decode cX0_pointOfBoth 62 = .ok (.aload_n 0, 1) := by decide +kernel
theorem dX0_pointOfBoth_63 : decode cX0_pointOfBoth 63 = .ok (.iload_n 2, 1) := by decide +kernel
theorem dX0_pointOfBoth_64 : decode cX0_pointOfBoth 64 = .ok (.invokestatic 35, 3) := by decide +kernel
theorem dX0_pointOfBoth_67 : decode cX0_pointOfBoth 67 = .ok (.ixor, 1) := by decide +kernel
theorem dX0_pointOfBoth_68 : decode cX0_pointOfBoth 68 = .ok (.istore 7, 2) := by decide +kernel
theorem dX0_pointOfBoth_70 : decode cX0_pointOfBoth 70 = .ok (.aload_n 0, 1) := by decide +kernel
theorem dX0_pointOfBoth_71 : decode cX0_pointOfBoth 71 = .ok (.iload 5, 2) := by decide +kernel
theorem dX0_pointOfBoth_73 : decode cX0_pointOfBoth 73 = .ok (.aload_n 0, 1) := by decide +kernel
theorem dX0_pointOfBoth_74 : decode cX0_pointOfBoth 74 = .ok (.iload_n 2, 1) := by decide +kernel
theorem dX0_pointOfBoth_75 : decode cX0_pointOfBoth 75 = .ok (.invokestatic 27, 3) := by decide +kernel
theorem dX0_pointOfBoth_78 : decode cX0_pointOfBoth 78 = .ok (.ixor, 1) := by decide +kernel
theorem dX0_pointOfBoth_79 : decode cX0_pointOfBoth 79 = .ok (.iload 7, 2) := by decide +kernel
theorem dX0_pointOfBoth_81 : decode cX0_pointOfBoth 81 = .ok (.iconst 1, 1) := by decide +kernel
theorem dX0_pointOfBoth_82 : decode cX0_pointOfBoth 82 = .ok (.invokevirtual 38, 3) := by decide +kernel
theorem dX0_pointOfBoth_85 : decode cX0_pointOfBoth 85 = .ok (.istore 6, 2) := by decide +kernel
theorem dX0_pointOfBoth_87 : decode cX0_pointOfBoth 87 = .ok (.iload 6, 2) := by decide +kernel
theorem dX0_pointOfBoth_89 : decode cX0_pointOfBoth 89 = .ok (.bipush (-9), 2) := by decide +kernel
theorem dX0_pointOfBoth_91 : decode cX0_pointOfBoth 91 = .ok (.if_icmp .ne 8, 3) := by decide +kernel
theorem dX0_pointOfBoth_94 : decode cX0_pointOfBoth 94 = .ok (.bipush (-9), 2) := by decide +kernel
theorem dX0_pointOfBoth_96 : decode cX0_pointOfBoth 96 = .ok (.goto 25, 3) := by decide +kernel
theorem dX0_pointOfBoth_99 : decode cX0_pointOfBoth 99 = .ok (.iload 6, 2) := by decide +kernel
theorem dX0_pointOfBoth_101 : decode cX0_pointOfBoth 101 = .ok (.aload_n 0, 1) := by decide +kernel
theorem dX0_pointOfBoth_102 : decode cX0_pointOfBoth 102 = .ok (.invokevirtual 24, 3) := by decide +kernel
theorem dX0_pointOfBoth_105 : decode cX0_pointOfBoth 105 = .ok (.ishl, 1) := by decide +kernel
theorem dX0_pointOfBoth_106 : decode cX0_pointOfBoth 106 = .ok (.aload_n 0, 1) := by decide +kernel
theorem dX0_pointOfBoth_107 : decode cX0_pointOfBoth 107 = .ok (.iload 5, 2) := by decide +kernel
theorem dX0_pointOfBoth_109 : decode cX0_pointOfBoth 109 = .ok (.iload 6, 2) := by decide +kernel
theorem dX0_pointOfBoth_111 : decode cX0_pointOfBoth 111 = .ok (.invokevirtual 31, 3) := by decide +kernel
theorem dX0_pointOfBoth_114 : decode cX0_pointOfBoth 114 = .ok (.aload_n 0, 1) := by decide +kernel
theorem dX0_pointOfBoth_115 : decode cX0_pointOfBoth 115 = .ok (.iload_n 1, 1) := by decide +kernel
theorem dX0_pointOfBoth_116 : decode cX0_pointOfBoth 116 = .ok (.invokestatic 35, 3) := by decide +kernel
theorem dX0_pointOfBoth_119 : decode cX0_pointOfBoth 119 = .ok (.ixor, 1) := by decide +kernel
theorem dX0_pointOfBoth_120 : decode cX0_pointOfBoth 120 = .ok (.ior, 1) := by decide +kernel
theorem dX0_pointOfBoth_121 : decode cX0_pointOfBoth 121 = .ok (.ireturn, 1) := by decide +kernel
set_option maxRecDepth 20000 in
theorem ggX0_countBadPairs_X1_size : GoodIn wsX0_countBadPairs wsX1_size := goodIn_r _ [5, 6, 23, 24, 25, 26] (by decide +kernel) (by decide +kernel)
set_option maxRecDepth 20000 in
theorem gX0_countBadPairs_X1_size : GoodIn wsX0_countBadPairs (wsV RX0 15 RX1 yX1_size wsX1_size) := goodIn_app (goodIn_of _ (by decide +kernel)) ggX0_countBadPairs_X1_size
set_option maxRecDepth 20000 in
theorem ggX0_countBadPairs_X1_leastPartner : GoodIn wsX0_countBadPairs wsX1_leastPartner := goodIn_r _ [10, 6, 11, 12, 13, 4, 14, 15, 16, 17, 18, 23, 24, 25, 26] (by decide +kernel) (by decide +kernel)
set_option maxRecDepth 20000 in
theorem gX0_countBadPairs_X1_leastPartner : GoodIn wsX0_countBadPairs (wsV RX0 42 RX1 yX1_leastPartner wsX1_leastPartner) := goodIn_app (goodIn_of _ (by decide +kernel)) ggX0_countBadPairs_X1_leastPartner
set_option maxRecDepth 20000 in
theorem ggX0_countBadPairs_X0_insideOf : GoodIn wsX0_countBadPairs wsX0_insideOf := goodIn_r _ [22, 1, 2, 3, 4, 5, 6, 23, 24, 25, 26] (by decide +kernel) (by decide +kernel)
set_option maxRecDepth 20000 in
theorem gX0_countBadPairs_X0_insideOf : GoodIn wsX0_countBadPairs (va_wsS RX0 21 yX0_insideOf wsX0_insideOf) := goodIn_app (goodIn_of _ (by decide +kernel)) ggX0_countBadPairs_X0_insideOf
theorem dX0_countBadPairs_0 : decode cX0_countBadPairs 0 = .ok (.iconst 0, 1) := by decide +kernel
theorem dX0_countBadPairs_1 : decode cX0_countBadPairs 1 = .ok (.istore_n 1, 1) := by decide +kernel
theorem dX0_countBadPairs_2 : decode cX0_countBadPairs 2 = .ok (.iconst 1, 1) := by decide +kernel
theorem dX0_countBadPairs_3 : decode cX0_countBadPairs 3 = .ok (.istore_n 2, 1) := by decide +kernel
theorem dX0_countBadPairs_4 : decode cX0_countBadPairs 4 = .ok (.iload_n 2, 1) := by decide +kernel
theorem dX0_countBadPairs_5 : decode cX0_countBadPairs 5 = .ok (.aload_n 0, 1) := by decide +kernel
theorem dX0_countBadPairs_6 : decode cX0_countBadPairs 6 = .ok (.invokevirtual 15, 3) := by decide +kernel
theorem dX0_countBadPairs_9 : decode cX0_countBadPairs 9 = .ok (.if_icmp .ge 22, 3) := by decide +kernel
theorem dX0_countBadPairs_12 : decode cX0_countBadPairs 12 = .ok (.aload_n 0, 1) := by decide +kernel
theorem dX0_countBadPairs_13 : decode cX0_countBadPairs 13 = .ok (.iload_n 2, 1) := by decide +kernel
theorem dX0_countBadPairs_14 : decode cX0_countBadPairs 14 = .ok (.invokevirtual 42, 3) := by decide +kernel
theorem dX0_countBadPairs_17 : decode cX0_countBadPairs 17 = .ok (.bipush (-9), 2) := by decide +kernel
theorem dX0_countBadPairs_19 : decode cX0_countBadPairs 19 = .ok (.if_icmp .eq 6, 3) := by decide +kernel
theorem dX0_countBadPairs_22 : decode cX0_countBadPairs 22 = .ok (.iinc 1 1, 3) := by decide +kernel
theorem dX0_countBadPairs_25 : decode cX0_countBadPairs 25 = .ok (.iinc 2 1, 3) := by decide +kernel
theorem dX0_countBadPairs_28 : decode cX0_countBadPairs 28 = .ok (.goto (-24), 3) := by decide +kernel
theorem dX0_countBadPairs_31 : decode cX0_countBadPairs 31 = .ok (.iload_n 1, 1) := by decide +kernel
theorem dX0_countBadPairs_32 : decode cX0_countBadPairs 32 = .ok (.aload_n 0, 1) := by decide +kernel
theorem dX0_countBadPairs_33 : decode cX0_countBadPairs 33 = .ok (.invokevirtual 15, 3) := by decide +kernel
theorem dX0_countBadPairs_36 : decode cX0_countBadPairs 36 = .ok (.iconst 1, 1) := by decide +kernel
theorem dX0_countBadPairs_37 : decode cX0_countBadPairs 37 = .ok (.ishr, 1) := by decide +kernel
theorem dX0_countBadPairs_38 : decode cX0_countBadPairs 38 = .ok (.imul, 1) := by decide +kernel
theorem dX0_countBadPairs_39 : decode cX0_countBadPairs 39 = .ok (.aload_n 0, 1) := by decide +kernel
theorem dX0_countBadPairs_40 : decode cX0_countBadPairs 40 = .ok (.invokestatic 21, 3) := by decide +kernel
theorem dX0_countBadPairs_43 : decode cX0_countBadPairs 43 = .ok (.imul, 1) := by decide +kernel
theorem dX0_countBadPairs_44 : decode cX0_countBadPairs 44 = .ok (.ireturn, 1) := by decide +kernel
set_option maxRecDepth 20000 in
theorem ggX1_init_X1_changeCell : GoodIn wsX1_init wsX1_changeCell := goodIn_r _ [13, 7, 14, 15, 16, 17, 18, 19, 12, 20, 5, 8, 21, 22, 23, 24, 25, 26, 27, 4, 28, 29, 30, 31, 32, 33, 34, 35] (by decide +kernel) (by decide +kernel)
set_option maxRecDepth 20000 in
theorem gX1_init_X1_changeCell : GoodIn wsX1_init (wsV RX1 25 RX1 yX1_changeCell wsX1_changeCell) := goodIn_app (goodIn_of _ (by decide +kernel)) ggX1_init_X1_changeCell
theorem dX1_init_0 : decode cX1_init 0 = .ok (.aload_n 0, 1) := by decide +kernel
theorem dX1_init_1 : decode cX1_init 1 = .ok (.invokespecial 3, 3) := by decide +kernel
theorem dX1_init_4 : decode cX1_init 4 = .ok (.aload_n 0, 1) := by decide +kernel
theorem dX1_init_5 : decode cX1_init 5 = .ok (.iconst 1, 1) := by decide +kernel
theorem dX1_init_6 : decode cX1_init 6 = .ok (.putfield 9, 3) := by decide +kernel
theorem dX1_init_9 : decode cX1_init 9 = .ok (.aload_n 0, 1) := by decide +kernel
theorem dX1_init_10 : decode cX1_init 10 = .ok (.iconst 2, 1) := by decide +kernel
theorem dX1_init_11 : decode cX1_init 11 = .ok (.putfield 15, 3) := by decide +kernel
theorem dX1_init_14 : decode cX1_init 14 = .ok (.aload_n 0, 1) := by decide +kernel
theorem dX1_init_15 : decode cX1_init 15 = .ok (.bipush 16, 2) := by decide +kernel
theorem dX1_init_17 : decode cX1_init 17 = .ok (.newarray .int, 2) := by decide +kernel
theorem dX1_init_19 : decode cX1_init 19 = .ok (.putfield 18, 3) := by decide +kernel
theorem dX1_init_22 : decode cX1_init 22 = .ok (.aload_n 0, 1) := by decide +kernel
theorem dX1_init_23 : decode cX1_init 23 = .ok (.sipush 256, 3) := by decide +kernel
theorem dX1_init_26 : decode cX1_init 26 = .ok (.newarray .int, 2) := by decide +kernel
theorem dX1_init_28 : decode cX1_init 28 = .ok (.putfield 22, 3) := by decide +kernel
theorem dX1_init_31 : decode cX1_init 31 = .ok (.aload_n 0, 1) := by decide +kernel
theorem dX1_init_32 : decode cX1_init 32 = .ok (.iconst 0, 1) := by decide +kernel
theorem dX1_init_33 : decode cX1_init 33 = .ok (.iconst 0, 1) := by decide +kernel
theorem dX1_init_34 : decode cX1_init 34 = .ok (.iconst 1, 1) := by decide +kernel
theorem dX1_init_35 : decode cX1_init 35 = .ok (.invokevirtual 25, 3) := by decide +kernel
theorem dX1_init_38 : decode cX1_init 38 = .ok (.return_, 1) := by decide +kernel
theorem dX1_bits_0 : decode cX1_bits 0 = .ok (.aload_n 0, 1) := by decide +kernel
theorem dX1_bits_1 : decode cX1_bits 1 = .ok (.getfield 9, 3) := by decide +kernel
theorem dX1_bits_4 : decode cX1_bits 4 = .ok (.ireturn, 1) := by decide +kernel
theorem dX1_size_0 : decode cX1_size 0 = .ok (.aload_n 0, 1) := by decide +kernel
theorem dX1_size_1 : decode cX1_size 1 = .ok (.getfield 15, 3) := by decide +kernel
theorem dX1_size_4 : decode cX1_size 4 = .ok (.ireturn, 1) := by decide +kernel
theorem dX1_has_0 : decode cX1_has 0 = .ok (.iload_n 1, 1) := by decide +kernel
theorem dX1_has_1 : decode cX1_has 1 = .ok (.ifCond .lt 15, 3) := by decide +kernel
theorem dX1_has_4 : decode cX1_has 4 = .ok (.iload_n 1, 1) := by decide +kernel
theorem dX1_has_5 : decode cX1_has 5 = .ok (.aload_n 0, 1) := by decide +kernel
theorem dX1_has_6 : decode cX1_has 6 = .ok (.getfield 15, 3) := by decide +kernel
theorem dX1_has_9 : decode cX1_has 9 = .ok (.if_icmp .ge 7, 3) := by decide +kernel
theorem dX1_has_12 : decode cX1_has 12 = .ok (.iconst 1, 1) := by decide +kernel
theorem dX1_has_13 : decode cX1_has 13 = .ok (.goto 4, 3) := by decide +kernel
theorem dX1_has_16 : decode cX1_has 16 = .ok (.iconst 0, 1) := by decide +kernel
theorem dX1_has_17 : decode cX1_has 17 = .ok (.ireturn, 1) := by decide +kernel
theorem dX1_hasBit_0 : decode cX1_hasBit 0 = .ok (.iload_n 1, 1) := by decide +kernel
theorem dX1_hasBit_1 : decode cX1_hasBit 1 = .ok (.ifCond .lt 15, 3) := by decide +kernel
theorem dX1_hasBit_4 : decode cX1_hasBit 4 = .ok (.iload_n 1, 1) := by decide +kernel
theorem dX1_hasBit_5 : decode cX1_hasBit 5 = .ok (.aload_n 0, 1) := by decide +kernel
theorem dX1_hasBit_6 : decode cX1_hasBit 6 = .ok (.getfield 9, 3) := by decide +kernel
theorem dX1_hasBit_9 : decode cX1_hasBit 9 = .ok (.if_icmp .ge 7, 3) := by decide +kernel
theorem dX1_hasBit_12 : decode cX1_hasBit 12 = .ok (.iconst 1, 1) := by decide +kernel
theorem dX1_hasBit_13 : decode cX1_hasBit 13 = .ok (.goto 4, 3) := by decide +kernel
theorem dX1_hasBit_16 : decode cX1_hasBit 16 = .ok (.iconst 0, 1) := by decide +kernel
theorem dX1_hasBit_17 : decode cX1_hasBit 17 = .ok (.ireturn, 1) := by decide +kernel
set_option maxRecDepth 20000 in
theorem ggX1_cell_X2_cellIndex : GoodIn wsX1_cell wsX2_cellIndex := goodIn_r _ [4] (by decide +kernel) (by decide +kernel)
set_option maxRecDepth 20000 in
theorem gX1_cell_X2_cellIndex_n29 : GoodIn wsX1_cell (wsX2_cellIndex) := ggX1_cell_X2_cellIndex
theorem dX1_cell_0 : decode cX1_cell 0 = .ok (.aload_n 0, 1) := by decide +kernel
theorem dX1_cell_1 : decode cX1_cell 1 = .ok (.getfield 18, 3) := by decide +kernel
theorem dX1_cell_4 : decode cX1_cell 4 = .ok (.iload_n 1, 1) := by decide +kernel
theorem dX1_cell_5 : decode cX1_cell 5 = .ok (.iload_n 2, 1) := by decide +kernel
theorem dX1_cell_6 : decode cX1_cell 6 = .ok (.invokestatic 29, 3) := by decide +kernel
theorem dX1_cell_9 : decode cX1_cell 9 = .ok (.iaload, 1) := by decide +kernel
theorem dX1_cell_10 : decode cX1_cell 10 = .ok (.ireturn, 1) := by decide +kernel
set_option maxRecDepth 20000 in
theorem ggX1_cubeBit_X1_cell : GoodIn wsX1_cubeBit wsX1_cell := goodIn_r _ [5, 6, 7, 8, 9, 10, 11, 12, 13] (by decide +kernel) (by decide +kernel)
set_option maxRecDepth 20000 in
theorem gX1_cubeBit_X1_cell : GoodIn wsX1_cubeBit (wsV RX1 33 RX1 yX1_cell wsX1_cell) := goodIn_app (goodIn_of _ (by decide +kernel)) ggX1_cubeBit_X1_cell
theorem dX1_cubeBit_0 : decode cX1_cubeBit 0 = .ok (.aload_n 0, 1) := by decide +kernel
theorem dX1_cubeBit_1 : decode cX1_cubeBit 1 = .ok (.iload_n 1, 1) := by decide +kernel
theorem dX1_cubeBit_2 : decode cX1_cubeBit 2 = .ok (.iload_n 2, 1) := by decide +kernel
theorem dX1_cubeBit_3 : decode cX1_cubeBit 3 = .ok (.invokevirtual 33, 3) := by decide +kernel
theorem dX1_cubeBit_6 : decode cX1_cubeBit 6 = .ok (.iload_n 3, 1) := by decide +kernel
theorem dX1_cubeBit_7 : decode cX1_cubeBit 7 = .ok (.ishr, 1) := by decide +kernel
theorem dX1_cubeBit_8 : decode cX1_cubeBit 8 = .ok (.iconst 1, 1) := by decide +kernel
theorem dX1_cubeBit_9 : decode cX1_cubeBit 9 = .ok (.iand, 1) := by decide +kernel
theorem dX1_cubeBit_10 : decode cX1_cubeBit 10 = .ok (.ireturn, 1) := by decide +kernel
set_option maxRecDepth 20000 in
theorem ggX1_changeCell_X2_cellIndex : GoodIn wsX1_changeCell wsX2_cellIndex := goodIn_r _ [4] (by decide +kernel) (by decide +kernel)
set_option maxRecDepth 20000 in
theorem gX1_changeCell_X2_cellIndex_n29 : GoodIn wsX1_changeCell (wsX2_cellIndex) := ggX1_changeCell_X2_cellIndex
set_option maxRecDepth 20000 in
theorem ggX1_changeCell_X1_fillTable : GoodIn wsX1_changeCell wsX1_fillTable := goodIn_r _ [9, 10, 11, 12, 13, 8, 14, 15, 16, 17, 18, 19, 20, 21, 22, 23, 1, 2, 3, 4, 24, 25, 26, 27] (by decide +kernel) (by decide +kernel)
set_option maxRecDepth 20000 in
theorem gX1_changeCell_X1_fillTable : GoodIn wsX1_changeCell (wsV RX1 36 RX1 yX1_fillTable wsX1_fillTable) := goodIn_app (goodIn_of _ (by decide +kernel)) ggX1_changeCell_X1_fillTable
theorem dX1_changeCell_0 : decode cX1_changeCell 0 = .ok (.aload_n 0, 1) := by decide +kernel
theorem dX1_changeCell_1 : decode cX1_changeCell 1 = .ok (.getfield 18, 3) := by decide +kernel
theorem dX1_changeCell_4 : decode cX1_changeCell 4 = .ok (.iload_n 1, 1) := by decide +kernel
theorem dX1_changeCell_5 : decode cX1_changeCell 5 = .ok (.iload_n 2, 1) := by decide +kernel
theorem dX1_changeCell_6 : decode cX1_changeCell 6 = .ok (.invokestatic 29, 3) := by decide +kernel
theorem dX1_changeCell_9 : decode cX1_changeCell 9 = .ok (.iload_n 3, 1) := by decide +kernel
theorem dX1_changeCell_10 : decode cX1_changeCell 10 = .ok (.iastore, 1) := by decide +kernel
theorem dX1_changeCell_11 : decode cX1_changeCell 11 = .ok (.aload_n 0, 1) := by decide +kernel
theorem dX1_changeCell_12 : decode cX1_changeCell 12 = .ok (.invokevirtual 36, 3) := by decide +kernel
theorem dX1_changeCell_15 : decode cX1_changeCell 15 = .ok (.return_, 1) := by decide +kernel
set_option maxRecDepth 20000 in
theorem ggX1_take_X1_fillTable : GoodIn wsX1_take wsX1_fillTable := goodIn_r _ [8, 2, 9, 10, 11, 7, 12, 13, 14, 15, 16, 1, 17, 18, 19, 20, 3, 21, 22, 23, 24, 25, 26, 27] (by decide +kernel) (by decide +kernel)
set_option maxRecDepth 20000 in
theorem gX1_take_X1_fillTable : GoodIn wsX1_take (wsV RX1 36 RX1 yX1_fillTable wsX1_fillTable) := goodIn_app (goodIn_of _ (by decide +kernel)) ggX1_take_X1_fillTable
theorem dX1_take_0 : decode cX1_take 0 = .ok (.aload_n 0, 1) := by decide +kernel
theorem dX1_take_1 : decode cX1_take 1 = .ok (.iload_n 1, 1) := by decide +kernel
theorem dX1_take_2 : decode cX1_take 2 = .ok (.putfield 9, 3) := by decide +kernel
theorem dX1_take_5 : decode cX1_take 5 = .ok (.aload_n 0, 1) := by decide +kernel
theorem dX1_take_6 : decode cX1_take 6 = .ok (.iconst 1, 1) := by decide +kernel
theorem dX1_take_7 : decode cX1_take 7 = .ok (.iload_n 1, 1) := by decide +kernel
theorem dX1_take_8 : decode cX1_take 8 = .ok (.ishl, 1) := by decide +kernel
theorem dX1_take_9 : decode cX1_take 9 = .ok (.putfield 15, 3) := by decide +kernel
theorem dX1_take_12 : decode cX1_take 12 = .ok (.iconst 0, 1) := by decide +kernel
theorem dX1_take_13 : decode cX1_take 13 = .ok (.istore_n 3, 1) := by decide +kernel
theorem dX1_take_14 : decode cX1_take 14 = .ok (.iload_n 3, 1) := by decide +kernel
theorem dX1_take_15 : decode cX1_take 15 = .ok (.aload_n 0, 1) := by decide +kernel
theorem dX1_take_16 : decode cX1_take 16 = .ok (.getfield 18, 3) := by decide +kernel
theorem dX1_take_19 : decode cX1_take 19 = .ok (.arraylength, 1) := by decide +kernel
theorem dX1_take_20 : decode cX1_take 20 = .ok (.if_icmp .ge 24, 3) := by decide +kernel
theorem dX1_take_23 : decode cX1_take 23 = .ok (.iload_n 3, 1) := by decide +kernel
theorem dX1_take_24 : decode cX1_take 24 = .ok (.aload_n 2, 1) := by decide +kernel
theorem dX1_take_25 : decode cX1_take 25 = .ok (.arraylength, 1) := by decide +kernel
theorem dX1_take_26 : decode cX1_take 26 = .ok (.if_icmp .ge 18, 3) := by decide +kernel
theorem dX1_take_29 : decode cX1_take 29 = .ok (.aload_n 0, 1) := by decide +kernel
theorem dX1_take_30 : decode cX1_take 30 = .ok (.getfield 18, 3) := by decide +kernel
theorem dX1_take_33 : decode cX1_take 33 = .ok (.iload_n 3, 1) := by decide +kernel
theorem dX1_take_34 : decode cX1_take 34 = .ok (.aload_n 2, 1) := by decide +kernel
theorem dX1_take_35 : decode cX1_take 35 = .ok (.iload_n 3, 1) := by decide +kernel
theorem dX1_take_36 : decode cX1_take 36 = .ok (.iaload, 1) := by decide +kernel
theorem dX1_take_37 : decode cX1_take 37 = .ok (.iastore, 1) := by decide +kernel
theorem dX1_take_38 : decode cX1_take 38 = .ok (.iinc 3 1, 3) := by decide +kernel
theorem dX1_take_41 : decode cX1_take 41 = .ok (.goto (-27), 3) := by decide +kernel
theorem dX1_take_44 : decode cX1_take 44 = .ok (.aload_n 0, 1) := by decide +kernel
theorem dX1_take_45 : decode cX1_take 45 = .ok (.invokevirtual 36, 3) := by decide +kernel
theorem dX1_take_48 : decode cX1_take 48 = .ok (.return_, 1) := by decide +kernel
set_option maxRecDepth 20000 in
theorem ggX1_fillTable_X1_tableIndex : GoodIn wsX1_fillTable wsX1_tableIndex := goodIn_r _ [6] (by decide +kernel) (by decide +kernel)
set_option maxRecDepth 20000 in
theorem gX1_fillTable_X1_tableIndex : GoodIn wsX1_fillTable (va_wsS RX1 39 yX1_tableIndex wsX1_tableIndex) := goodIn_app (goodIn_of _ (by decide +kernel)) ggX1_fillTable_X1_tableIndex
set_option maxRecDepth 20000 in
theorem ggX1_fillTable_X1_sumOfCells : GoodIn wsX1_fillTable wsX1_sumOfCells := goodIn_r _ [10, 11, 12, 13, 14, 5, 15, 16, 17, 18, 19, 20, 21, 22, 23] (by decide +kernel) (by decide +kernel)
set_option maxRecDepth 20000 in
theorem gX1_fillTable_X1_sumOfCells : GoodIn wsX1_fillTable (wsV RX1 42 RX1 yX1_sumOfCells wsX1_sumOfCells) := goodIn_app (goodIn_of _ (by decide +kernel)) ggX1_fillTable_X1_sumOfCells
theorem dX1_fillTable_0 : decode cX1_fillTable 0 = .ok (.iconst 0, 1) := by decide +kernel
theorem dX1_fillTable_1 : decode cX1_fillTable 1 = .ok (.istore_n 1, 1) := by decide +kernel
theorem dX1_fillTable_2 : decode cX1_fillTable 2 = .ok (.iload_n 1, 1) := by decide +kernel
theorem dX1_fillTable_3 : decode cX1_fillTable 3 = .ok (.aload_n 0, 1) := by decide +kernel
theorem dX1_fillTable_4 : decode cX1_fillTable 4 = .ok (.getfield 15, 3) := by decide +kernel
theorem dX1_fillTable_7 : decode cX1_fillTable 7 = .ok (.if_icmp .ge 41, 3) := by decide +kernel
theorem dX1_fillTable_10 : decode cX1_fillTable 10 = .ok (.iconst 0, 1) := by decide +kernel
theorem dX1_fillTable_11 : decode cX1_fillTable 11 = .ok (.istore_n 2, 1) := by decide +kernel
theorem dX1_fillTable_12 : decode cX1_fillTable 12 = .ok (.iload_n 2, 1) := by decide +kernel
theorem dX1_fillTable_13 : decode cX1_fillTable 13 = .ok (.aload_n 0, 1) := by decide +kernel
theorem dX1_fillTable_14 : decode cX1_fillTable 14 = .ok (.getfield 15, 3) := by decide +kernel
theorem dX1_fillTable_17 : decode cX1_fillTable 17 = .ok (.if_icmp .ge 25, 3) := by decide +kernel
theorem dX1_fillTable_20 : decode cX1_fillTable 20 = .ok (.aload_n 0, 1) := by decide +kernel
theorem dX1_fillTable_21 : decode cX1_fillTable 21 = .ok (.getfield 22, 3) := by decide +kernel
theorem dX1_fillTable_24 : decode cX1_fillTable 24 = .ok (.iload_n 1, 1) := by decide +kernel
theorem dX1_fillTable_25 : decode cX1_fillTable 25 = .ok (.iload_n 2, 1) := by decide +kernel
theorem dX1_fillTable_26 : decode cX1_fillTable 26 = .ok (.invokestatic 39, 3) := by decide +kernel
theorem dX1_fillTable_29 : decode cX1_fillTable 29 = .ok (.aload_n 0, 1) := by decide +kernel
theorem dX1_fillTable_30 : decode cX1_fillTable 30 = .ok (.iload_n 1, 1) := by decide +kernel
theorem dX1_fillTable_31 : decode cX1_fillTable 31 = .ok (.iload_n 2, 1) := by decide +kernel
theorem dX1_fillTable_32 : decode cX1_fillTable 32 = .ok (.invokevirtual 42, 3) := by decide +kernel
theorem dX1_fillTable_35 : decode cX1_fillTable 35 = .ok (.iastore, 1) := by decide +kernel
theorem dX1_fillTable_36 : decode cX1_fillTable 36 = .ok (.iinc 2 1, 3) := by decide +kernel
theorem dX1_fillTable_39 : decode cX1_fillTable 39 = .ok (.goto (-27), 3) := by decide +kernel
theorem dX1_fillTable_42 : decode cX1_fillTable 42 = .ok (.iinc 1 1, 3) := by decide +kernel
theorem dX1_fillTable_45 : decode cX1_fillTable 45 = .ok (.goto (-43), 3) := by decide +kernel
theorem dX1_fillTable_48 : decode cX1_fillTable 48 = .ok (.return_, 1) := by decide +kernel
set_option maxRecDepth 20000 in
theorem ggX1_sumOfCells_X1_cell : GoodIn wsX1_sumOfCells wsX1_cell := goodIn_r _ [6, 7, 8, 9, 10, 11, 12, 13, 14] (by decide +kernel) (by decide +kernel)
set_option maxRecDepth 20000 in
theorem gX1_sumOfCells_X1_cell : GoodIn wsX1_sumOfCells (wsV RX1 33 RX1 yX1_cell wsX1_cell) := goodIn_app (goodIn_of _ (by decide +kernel)) ggX1_sumOfCells_X1_cell
theorem dX1_sumOfCells_0 : decode cX1_sumOfCells 0 = .ok (.iconst 0, 1) := by decide +kernel
theorem dX1_sumOfCells_1 : decode cX1_sumOfCells 1 = .ok (.istore_n 3, 1) := by decide +kernel
theorem dX1_sumOfCells_2 : decode cX1_sumOfCells 2 = .ok (.iconst 0, 1) := by decide +kernel
theorem dX1_sumOfCells_3 : decode cX1_sumOfCells 3 = .ok (.istore 4, 2) := by decide +kernel
theorem dX1_sumOfCells_5 : decode cX1_sumOfCells 5 = .ok (.iload 4, 2) := by decide +kernel
theorem dX1_sumOfCells_7 : decode cX1_sumOfCells 7 = .ok (.aload_n 0, 1) := by decide +kernel
theorem dX1_sumOfCells_8 : decode cX1_sumOfCells 8 = .ok (.getfield 9, 3) := by decide +kernel
theorem dX1_sumOfCells_11 : decode cX1_sumOfCells 11 = .ok (.if_icmp .ge 53, 3) := by decide +kernel
theorem dX1_sumOfCells_14 : decode cX1_sumOfCells 14 = .ok (.iconst 0, 1) := by decide +kernel
theorem dX1_sumOfCells_15 : decode cX1_sumOfCells 15 = .ok (.istore 5, 2) := by decide +kernel
theorem dX1_sumOfCells_17 : decode cX1_sumOfCells 17 = .ok (.iload 5, 2) := by decide +kernel
theorem dX1_sumOfCells_19 : decode cX1_sumOfCells 19 = .ok (.aload_n 0, 1) := by decide +kernel
theorem dX1_sumOfCells_20 : decode cX1_sumOfCells 20 = .ok (.getfield 9, 3) := by decide +kernel
theorem dX1_sumOfCells_23 : decode cX1_sumOfCells 23 = .ok (.if_icmp .ge 35, 3) := by decide +kernel
theorem dX1_sumOfCells_26 : decode cX1_sumOfCells 26 = .ok (.iload_n 1, 1) := by decide +kernel
theorem dX1_sumOfCells_27 : decode cX1_sumOfCells 27 = .ok (.iload 4, 2) := by decide +kernel
theorem dX1_sumOfCells_29 : decode cX1_sumOfCells 29 = .ok (.ishr, 1) := by decide +kernel
theorem dX1_sumOfCells_30 : decode cX1_sumOfCells 30 = .ok (.iload_n 2, 1) := by decide +kernel
theorem dX1_sumOfCells_31 : decode cX1_sumOfCells 31 = .ok (.iload 5, 2) := by decide +kernel
theorem dX1_sumOfCells_33 : decode cX1_sumOfCells 33 = .ok (.ishr, 1) := by decide +kernel
theorem dX1_sumOfCells_34 : decode cX1_sumOfCells 34 = .ok (.iand, 1) := by decide +kernel
theorem dX1_sumOfCells_35 : decode cX1_sumOfCells 35 = .ok (.iconst 1, 1) := by decide +kernel
theorem dX1_sumOfCells_36 : decode cX1_sumOfCells 36 = .ok (.iand, 1) := by decide +kernel
theorem dX1_sumOfCells_37 : decode cX1_sumOfCells 37 = .ok (.iconst 1, 1) := by decide +kernel
theorem dX1_sumOfCells_38 : decode cX1_sumOfCells 38 = .ok (.if_icmp .ne 14, 3) := by decide +kernel
theorem dX1_sumOfCells_41 : decode cX1_sumOfCells 41 = .ok (.iload_n 3, 1) := by decide +kernel
theorem dX1_sumOfCells_42 : decode cX1_sumOfCells 42 = .ok (.aload_n 0, 1) := by decide +kernel
theorem dX1_sumOfCells_43 : decode cX1_sumOfCells 43 = .ok (.iload 4, 2) := by decide +kernel
theorem dX1_sumOfCells_45 : decode cX1_sumOfCells 45 = .ok (.iload 5, 2) := by decide +kernel
theorem dX1_sumOfCells_47 : decode cX1_sumOfCells 47 = .ok (.invokevirtual 33, 3) := by decide +kernel
theorem dX1_sumOfCells_50 : decode cX1_sumOfCells 50 = .ok (.ixor, 1) := by decide +kernel
theorem dX1_sumOfCells_51 : decode cX1_sumOfCells 51 = .ok (.istore_n 3, 1) := by decide +kernel
theorem dX1_sumOfCells_52 : decode cX1_sumOfCells 52 = .ok (.iinc 5 1, 3) := by decide +kernel
theorem dX1_sumOfCells_55 : decode cX1_sumOfCells 55 = .ok (.goto (-38), 3) := by decide +kernel
theorem dX1_sumOfCells_58 : decode cX1_sumOfCells 58 = .ok (.iinc 4 1, 3) := by decide +kernel
theorem dX1_sumOfCells_61 : decode cX1_sumOfCells 61 = .ok (.goto (-56), 3) := by decide +kernel
theorem dX1_sumOfCells_64 : decode cX1_sumOfCells 64 = .ok (.iload_n 3, 1) := by decide +kernel
theorem dX1_sumOfCells_65 : decode cX1_sumOfCells 65 = .ok (.ireturn, 1) := by decide +kernel
theorem dX1_tableIndex_0 : decode cX1_tableIndex 0 = .ok (.iload_n 0, 1) := by decide +kernel
theorem dX1_tableIndex_1 : decode cX1_tableIndex 1 = .ok (.bipush 15, 2) := by decide +kernel
theorem dX1_tableIndex_3 : decode cX1_tableIndex 3 = .ok (.iand, 1) := by decide +kernel
theorem dX1_tableIndex_4 : decode cX1_tableIndex 4 = .ok (.iconst 4, 1) := by decide +kernel
theorem dX1_tableIndex_5 : decode cX1_tableIndex 5 = .ok (.ishl, 1) := by decide +kernel
theorem dX1_tableIndex_6 : decode cX1_tableIndex 6 = .ok (.iload_n 1, 1) := by decide +kernel
theorem dX1_tableIndex_7 : decode cX1_tableIndex 7 = .ok (.bipush 15, 2) := by decide +kernel
theorem dX1_tableIndex_9 : decode cX1_tableIndex 9 = .ok (.iand, 1) := by decide +kernel
theorem dX1_tableIndex_10 : decode cX1_tableIndex 10 = .ok (.ior, 1) := by decide +kernel
theorem dX1_tableIndex_11 : decode cX1_tableIndex 11 = .ok (.ireturn, 1) := by decide +kernel
set_option maxRecDepth 20000 in
theorem ggX1_times_X1_tableIndex : GoodIn wsX1_times wsX1_tableIndex := goodIn_r _ [5] (by decide +kernel) (by decide +kernel)
set_option maxRecDepth 20000 in
theorem gX1_times_X1_tableIndex : GoodIn wsX1_times (va_wsS RX1 39 yX1_tableIndex wsX1_tableIndex) := goodIn_app (goodIn_of _ (by decide +kernel)) ggX1_times_X1_tableIndex
theorem dX1_times_0 : decode cX1_times 0 = .ok (.aload_n 0, 1) := by decide +kernel
theorem dX1_times_1 : decode cX1_times 1 = .ok (.getfield 22, 3) := by decide +kernel
theorem dX1_times_4 : decode cX1_times 4 = .ok (.iload_n 1, 1) := by decide +kernel
theorem dX1_times_5 : decode cX1_times 5 = .ok (.iload_n 2, 1) := by decide +kernel
theorem dX1_times_6 : decode cX1_times 6 = .ok (.invokestatic 39, 3) := by decide +kernel
theorem dX1_times_9 : decode cX1_times 9 = .ok (.iaload, 1) := by decide +kernel
theorem dX1_times_10 : decode cX1_times 10 = .ok (.ireturn, 1) := by decide +kernel
set_option maxRecDepth 20000 in
theorem ggX1_isWhole_X1_leastBroken : GoodIn wsX1_isWhole wsX1_leastBroken := goodIn_r _ [5, 6, 7, 8, 9, 4, 10, 11, 12, 13, 14, 15, 16, 17, 18, 19, 20, 21, 22] (by decide +kernel) (by decide +kernel)
set_option maxRecDepth 20000 in
theorem gX1_isWhole_X1_leastBroken : GoodIn wsX1_isWhole (wsV RX1 45 RX1 yX1_leastBroken wsX1_leastBroken) := goodIn_app (goodIn_of _ (by decide +kernel)) ggX1_isWhole_X1_leastBroken
theorem dX1_isWhole_0 : decode cX1_isWhole 0 = .ok (.aload_n 0, 1) := by decide +kernel
theorem dX1_isWhole_1 : decode cX1_isWhole 1 = .ok (.invokevirtual 45, 3) := by decide +kernel
theorem dX1_isWhole_4 : decode cX1_isWhole 4 = .ok (.bipush (-9), 2) := by decide +kernel
theorem dX1_isWhole_6 : decode cX1_isWhole 6 = .ok (.if_icmp .ne 7, 3) := by decide +kernel
theorem dX1_isWhole_9 : decode cX1_isWhole 9 = .ok (.iconst 1, 1) := by decide +kernel
theorem dX1_isWhole_10 : decode cX1_isWhole 10 = .ok (.goto 4, 3) := by decide +kernel
theorem dX1_isWhole_13 : decode cX1_isWhole 13 = .ok (.iconst 0, 1) := by decide +kernel
theorem dX1_isWhole_14 : decode cX1_isWhole 14 = .ok (.ireturn, 1) := by decide +kernel
set_option maxRecDepth 20000 in
theorem ggX1_leastBroken_X1_leastPartner : GoodIn wsX1_leastBroken wsX1_leastPartner := goodIn_r _ [6, 1, 7, 8, 9, 5, 10, 11, 12, 13, 14, 15, 16, 17, 18] (by decide +kernel) (by decide +kernel)
set_option maxRecDepth 20000 in
theorem gX1_leastBroken_X1_leastPartner : GoodIn wsX1_leastBroken (wsV RX1 49 RX1 yX1_leastPartner wsX1_leastPartner) := goodIn_app (goodIn_of _ (by decide +kernel)) ggX1_leastBroken_X1_leastPartner
theorem dX1_leastBroken_0 : decode cX1_leastBroken 0 = .ok (.iconst 1, 1) := by decide +kernel
theorem dX1_leastBroken_1 : decode cX1_leastBroken 1 = .ok (.istore_n 1, 1) := by decide +kernel
theorem dX1_leastBroken_2 : decode cX1_leastBroken 2 = .ok (.iload_n 1, 1) := by decide +kernel
theorem dX1_leastBroken_3 : decode cX1_leastBroken 3 = .ok (.aload_n 0, 1) := by decide +kernel
theorem dX1_leastBroken_4 : decode cX1_leastBroken 4 = .ok (.getfield 15, 3) := by decide +kernel
theorem dX1_leastBroken_7 : decode cX1_leastBroken 7 = .ok (.if_icmp .ge 21, 3) := by decide +kernel
theorem dX1_leastBroken_10 : decode cX1_leastBroken 10 = .ok (.aload_n 0, 1) := by decide +kernel
theorem dX1_leastBroken_11 : decode cX1_leastBroken 11 = .ok (.iload_n 1, 1) := by decide +kernel
theorem dX1_leastBroken_12 : decode cX1_leastBroken 12 = .ok (.invokevirtual 49, 3) := by decide +kernel
theorem dX1_leastBroken_15 : decode cX1_leastBroken 15 = .ok (.bipush (-9), 2) := by decide +kernel
theorem dX1_leastBroken_17 : decode cX1_leastBroken 17 = .ok (.if_icmp .eq 5, 3) := by decide +kernel
theorem dX1_leastBroken_20 : decode cX1_leastBroken 20 = .ok (.iload_n 1, 1) := by decide +kernel
theorem dX1_leastBroken_21 : decode cX1_leastBroken 21 = .ok (.ireturn, 1) := by decide +kernel
theorem dX1_leastBroken_22 : decode cX1_leastBroken 22 = .ok (.iinc 1 1, 3) := by decide +kernel
theorem dX1_leastBroken_25 : decode cX1_leastBroken 25 = .ok (.goto (-23), 3) := by decide +kernel
theorem dX1_leastBroken_28 : decode cX1_leastBroken 28 = .ok (.bipush (-9), 2) := by decide +kernel
theorem dX1_leastBroken_30 : decode cX1_leastBroken 30 = .ok (.ireturn, 1) := by decide +kernel
set_option maxRecDepth 20000 in
theorem ggX1_leastPartner_X1_times : GoodIn wsX1_leastPartner wsX1_times := goodIn_r _ [6, 7, 8, 9, 5, 10, 11, 12, 13, 14] (by decide +kernel) (by decide +kernel)
set_option maxRecDepth 20000 in
theorem gX1_leastPartner_X1_times : GoodIn wsX1_leastPartner (wsV RX1 53 RX1 yX1_times wsX1_times) := goodIn_app (goodIn_of _ (by decide +kernel)) ggX1_leastPartner_X1_times
theorem dX1_leastPartner_0 : decode cX1_leastPartner 0 = .ok (.iconst 1, 1) := by decide +kernel
theorem dX1_leastPartner_1 : decode cX1_leastPartner 1 = .ok (.istore_n 2, 1) := by decide +kernel
theorem dX1_leastPartner_2 : decode cX1_leastPartner 2 = .ok (.iload_n 2, 1) := by decide +kernel
theorem dX1_leastPartner_3 : decode cX1_leastPartner 3 = .ok (.aload_n 0, 1) := by decide +kernel
theorem dX1_leastPartner_4 : decode cX1_leastPartner 4 = .ok (.getfield 15, 3) := by decide +kernel
theorem dX1_leastPartner_7 : decode cX1_leastPartner 7 = .ok (.if_icmp .ge 20, 3) := by decide +kernel
theorem dX1_leastPartner_10 : decode cX1_leastPartner 10 = .ok (.aload_n 0, 1) := by decide +kernel
theorem dX1_leastPartner_11 : decode cX1_leastPartner 11 = .ok (.iload_n 1, 1) := by decide +kernel
theorem dX1_leastPartner_12 : decode cX1_leastPartner 12 = .ok (.iload_n 2, 1) := by decide +kernel
theorem dX1_leastPartner_13 : decode cX1_leastPartner 13 = .ok (.invokevirtual 53, 3) := by decide +kernel
theorem dX1_leastPartner_16 : decode cX1_leastPartner 16 = .ok (.ifCond .ne 5, 3) := by decide +kernel
theorem dX1_leastPartner_19 : decode cX1_leastPartner 19 = .ok (.iload_n 2, 1) := by decide +kernel
theorem dX1_leastPartner_20 : decode cX1_leastPartner 20 = .ok (.ireturn, 1) := by decide +kernel
theorem dX1_leastPartner_21 : decode cX1_leastPartner 21 = .ok (.iinc 2 1, 3) := by decide +kernel
theorem dX1_leastPartner_24 : decode cX1_leastPartner 24 = .ok (.goto (-22), 3) := by decide +kernel
theorem dX1_leastPartner_27 : decode cX1_leastPartner 27 = .ok (.bipush (-9), 2) := by decide +kernel
theorem dX1_leastPartner_29 : decode cX1_leastPartner 29 = .ok (.ireturn, 1) := by decide +kernel
set_option maxRecDepth 20000 in
theorem ggX1_unit_X1_isUnit : GoodIn wsX1_unit wsX1_isUnit := goodIn_r _ [6, 1, 7, 8, 9, 5, 10, 11, 12, 13, 14, 15, 16, 17, 18] (by decide +kernel) (by decide +kernel)
set_option maxRecDepth 20000 in
theorem gX1_unit_X1_isUnit : GoodIn wsX1_unit (wsV RX1 56 RX1 yX1_isUnit wsX1_isUnit) := goodIn_app (goodIn_of _ (by decide +kernel)) ggX1_unit_X1_isUnit
theorem dX1_unit_0 : decode cX1_unit 0 = .ok (.iconst 0, 1) := by decide +kernel
theorem dX1_unit_1 : decode cX1_unit 1 = .ok (.istore_n 1, 1) := by decide +kernel
theorem dX1_unit_2 : decode cX1_unit 2 = .ok (.iload_n 1, 1) := by decide +kernel
theorem dX1_unit_3 : decode cX1_unit 3 = .ok (.aload_n 0, 1) := by decide +kernel
theorem dX1_unit_4 : decode cX1_unit 4 = .ok (.getfield 15, 3) := by decide +kernel
theorem dX1_unit_7 : decode cX1_unit 7 = .ok (.if_icmp .ge 19, 3) := by decide +kernel
theorem dX1_unit_10 : decode cX1_unit 10 = .ok (.aload_n 0, 1) := by decide +kernel
theorem dX1_unit_11 : decode cX1_unit 11 = .ok (.iload_n 1, 1) := by decide +kernel
theorem dX1_unit_12 : decode cX1_unit 12 = .ok (.invokevirtual 56, 3) := by decide +kernel
theorem dX1_unit_15 : decode cX1_unit 15 = .ok (.ifCond .eq 5, 3) := by decide +kernel
theorem dX1_unit_18 : decode cX1_unit 18 = .ok (.iload_n 1, 1) := by decide +kernel
theorem dX1_unit_19 : decode cX1_unit 19 = .ok (.ireturn, 1) := by decide +kernel
theorem dX1_unit_20 : decode cX1_unit 20 = .ok (.iinc 1 1, 3) := by decide +kernel
theorem dX1_unit_23 : decode cX1_unit 23 = .ok (.goto (-21), 3) := by decide +kernel
theorem dX1_unit_26 : decode cX1_unit 26 = .ok (.bipush (-9), 2) := by decide +kernel
theorem dX1_unit_28 : decode cX1_unit 28 = .ok (.ireturn, 1) := by decide +kernel
set_option maxRecDepth 20000 in
theorem ggX1_isUnit_X1_times : GoodIn wsX1_isUnit wsX1_times := goodIn_r _ [6, 7, 8, 9, 5, 10, 11, 12, 13, 14] (by decide +kernel) (by decide +kernel)
set_option maxRecDepth 20000 in
theorem gX1_isUnit_X1_times : GoodIn wsX1_isUnit (wsV RX1 53 RX1 yX1_times wsX1_times) := goodIn_app (goodIn_of _ (by decide +kernel)) ggX1_isUnit_X1_times
theorem dX1_isUnit_0 : decode cX1_isUnit 0 = .ok (.iconst 0, 1) := by decide +kernel
theorem dX1_isUnit_1 : decode cX1_isUnit 1 = .ok (.istore_n 2, 1) := by decide +kernel
theorem dX1_isUnit_2 : decode cX1_isUnit 2 = .ok (.iload_n 2, 1) := by decide +kernel
theorem dX1_isUnit_3 : decode cX1_isUnit 3 = .ok (.aload_n 0, 1) := by decide +kernel
theorem dX1_isUnit_4 : decode cX1_isUnit 4 = .ok (.getfield 15, 3) := by decide +kernel
theorem dX1_isUnit_7 : decode cX1_isUnit 7 = .ok (.if_icmp .ge 31, 3) := by decide +kernel
theorem dX1_isUnit_10 : decode cX1_isUnit 10 = .ok (.aload_n 0, 1) := by decide +kernel
theorem dX1_isUnit_11 : decode cX1_isUnit 11 = .ok (.iload_n 1, 1) := by decide +kernel
theorem dX1_isUnit_12 : decode cX1_isUnit 12 = .ok (.iload_n 2, 1) := by decide +kernel
theorem dX1_isUnit_13 : decode cX1_isUnit 13 = .ok (.invokevirtual 53, 3) := by decide +kernel
theorem dX1_isUnit_16 : decode cX1_isUnit 16 = .ok (.iload_n 2, 1) := by decide +kernel
theorem dX1_isUnit_17 : decode cX1_isUnit 17 = .ok (.if_icmp .ne 13, 3) := by decide +kernel
theorem dX1_isUnit_20 : decode cX1_isUnit 20 = .ok (.aload_n 0, 1) := by decide +kernel
theorem dX1_isUnit_21 : decode cX1_isUnit 21 = .ok (.iload_n 2, 1) := by decide +kernel
theorem dX1_isUnit_22 : decode cX1_isUnit 22 = .ok (.iload_n 1, 1) := by decide +kernel
theorem dX1_isUnit_23 : decode cX1_isUnit 23 = .ok (.invokevirtual 53, 3) := by decide +kernel
theorem dX1_isUnit_26 : decode cX1_isUnit 26 = .ok (.iload_n 2, 1) := by decide +kernel
theorem dX1_isUnit_27 : decode cX1_isUnit 27 = .ok (.if_icmp .eq 5, 3) := by decide +kernel
theorem dX1_isUnit_30 : decode cX1_isUnit 30 = .ok (.iconst 0, 1) := by decide +kernel
theorem dX1_isUnit_31 : decode cX1_isUnit 31 = .ok (.ireturn, 1) := by decide +kernel
theorem dX1_isUnit_32 : decode cX1_isUnit 32 = .ok (.iinc 2 1, 3) := by decide +kernel
theorem dX1_isUnit_35 : decode cX1_isUnit 35 = .ok (.goto (-33), 3) := by decide +kernel
theorem dX1_isUnit_38 : decode cX1_isUnit 38 = .ok (.iconst 1, 1) := by decide +kernel
theorem dX1_isUnit_39 : decode cX1_isUnit 39 = .ok (.ireturn, 1) := by decide +kernel
set_option maxRecDepth 20000 in
theorem ggX1_solve_X1_times : GoodIn wsX1_solve wsX1_times := goodIn_r _ [6, 7, 8, 9, 5, 10, 11, 12, 13, 14] (by decide +kernel) (by decide +kernel)
set_option maxRecDepth 20000 in
theorem gX1_solve_X1_times : GoodIn wsX1_solve (wsV RX1 53 RX1 yX1_times wsX1_times) := goodIn_app (goodIn_of _ (by decide +kernel)) ggX1_solve_X1_times
theorem dX1_solve_0 : decode cX1_solve 0 = .ok (.bipush (-9), 2) := by decide +kernel
theorem dX1_solve_2 : decode cX1_solve 2 = .ok (.istore 4, 2) := by decide +kernel
theorem dX1_solve_4 : decode cX1_solve 4 = .ok (.iconst 0, 1) := by decide +kernel
theorem dX1_solve_5 : decode cX1_solve 5 = .ok (.istore 5, 2) := by decide +kernel
theorem dX1_solve_7 : decode cX1_solve 7 = .ok (.iload 5, 2) := by decide +kernel
theorem dX1_solve_9 : decode cX1_solve 9 = .ok (.aload_n 0, 1) := by decide +kernel
theorem dX1_solve_10 : decode cX1_solve 10 = .ok (.getfield 15, 3) := by decide +kernel
theorem dX1_solve_13 : decode cX1_solve 13 = .ok (.if_icmp .ge 52, 3) := by decide +kernel
theorem dX1_solve_16 : decode cX1_solve 16 = .ok (.iload_n 3, 1) := by decide +kernel
theorem dX1_solve_17 : decode cX1_solve 17 = .ok (.ifCond .eq 13, 3) := by decide +kernel
theorem dX1_solve_20 : decode cX1_solve 20 = .ok (.aload_n 0, 1) := by decide +kernel
theorem dX1_solve_21 : decode cX1_solve 21 = .ok (.iload_n 1, 1) := by decide +kernel
theorem dX1_solve_22 : decode cX1_solve 22 = .ok (.iload 5, 2) := by decide +kernel
theorem dX1_solve_24 : decode cX1_solve 24 = .ok (.invokevirtual 53, 3) := by decide +kernel
theorem dX1_solve_27 : decode cX1_solve 27 = .ok (.goto 10, 3) := by decide +kernel
theorem dX1_solve_30 : decode cX1_solve 30 = .ok (.aload_n 0, 1) := by decide +kernel
theorem dX1_solve_31 : decode cX1_solve 31 = .ok (.iload 5, 2) := by decide +kernel
theorem dX1_solve_33 : decode cX1_solve 33 = .ok (.iload_n 1, 1) := by decide +kernel
theorem dX1_solve_34 : decode cX1_solve 34 = .ok (.invokevirtual 53, 3) := by decide +kernel
theorem dX1_solve_37 : decode cX1_solve 37 = .ok (.istore 6, 2) := by decide +kernel
theorem dX1_solve_39 : decode cX1_solve 39 = .ok (.iload 6, 2) := by decide +kernel
theorem dX1_solve_41 : decode cX1_solve 41 = .ok (.iload_n 2, 1) := by decide +kernel
theorem dX1_solve_42 : decode cX1_solve 42 = .ok (.if_icmp .ne 17, 3) := by decide +kernel
theorem dX1_solve_45 : decode cX1_solve 45 = .ok (.iload 4, 2) := by decide +kernel
theorem dX1_solve_47 : decode cX1_solve 47 = .ok (.bipush (-9), 2) := by decide +kernel
theorem dX1_solve_49 : decode cX1_solve 49 = .ok (.if_icmp .eq 6, 3) := by decide +kernel
theorem dX1_solve_52 : decode cX1_solve 52 = .ok (.bipush (-9), 2) := by decide +kernel
theorem dX1_solve_54 : decode cX1_solve 54 = .ok (.ireturn, 1) := by decide +kernel
theorem dX1_solve_55 : decode cX1_solve 55 = .ok (.iload 5, 2) := by decide +kernel
theorem dX1_solve_57 : decode cX1_solve 57 = .ok (.istore 4, 2) := by decide +kernel
theorem dX1_solve_59 : decode cX1_solve 59 = .ok (.iinc 5 1, 3) := by decide +kernel
theorem dX1_solve_62 : decode cX1_solve 62 = .ok (.goto (-55), 3) := by decide +kernel
theorem dX1_solve_65 : decode cX1_solve 65 = .ok (.iload 4, 2) := by decide +kernel
theorem dX1_solve_67 : decode cX1_solve 67 = .ok (.ireturn, 1) := by decide +kernel
set_option maxRecDepth 20000 in
theorem ggX1_joinsIn_X1_commutes : GoodIn wsX1_joinsIn wsX1_commutes := goodIn_r _ [5, 6, 7, 8, 9, 4, 10, 11, 12, 13, 14, 27, 28, 29, 30] (by decide +kernel) (by decide +kernel)
set_option maxRecDepth 20000 in
theorem gX1_joinsIn_X1_commutes : GoodIn wsX1_joinsIn (wsV RX1 60 RX1 yX1_commutes wsX1_commutes) := goodIn_app (goodIn_of _ (by decide +kernel)) ggX1_joinsIn_X1_commutes
set_option maxRecDepth 20000 in
theorem ggX1_joinsIn_X1_associates : GoodIn wsX1_joinsIn wsX1_associates := goodIn_r _ [18, 6, 19, 20, 21, 4, 22, 23, 24, 25, 26, 7, 8, 9, 10, 11, 12, 13, 14, 27, 28, 29, 30] (by decide +kernel) (by decide +kernel)
set_option maxRecDepth 20000 in
theorem gX1_joinsIn_X1_associates : GoodIn wsX1_joinsIn (wsV RX1 63 RX1 yX1_associates wsX1_associates) := goodIn_app (goodIn_of _ (by decide +kernel)) ggX1_joinsIn_X1_associates
theorem dX1_joinsIn_0 : decode cX1_joinsIn 0 = .ok (.iload_n 2, 1) := by decide +kernel
theorem dX1_joinsIn_1 : decode cX1_joinsIn 1 = .ok (.iconst 3, 1) := by decide +kernel
theorem dX1_joinsIn_2 : decode cX1_joinsIn 2 = .ok (.if_icmp .ne 44, 3) := by decide +kernel
theorem dX1_joinsIn_5 : decode cX1_joinsIn 5 = .ok (.aload_n 0, 1) := by decide +kernel
theorem dX1_joinsIn_6 : decode cX1_joinsIn 6 = .ok (.iload_n 1, 1) := by decide +kernel
theorem dX1_joinsIn_7 : decode cX1_joinsIn 7 = .ok (.invokevirtual 60, 3) := by decide +kernel
theorem dX1_joinsIn_10 : decode cX1_joinsIn 10 = .ok (.ifCond .eq 34, 3) := by decide +kernel
theorem dX1_joinsIn_13 : decode cX1_joinsIn 13 = .ok (.aload_n 0, 1) := by decide +kernel
theorem dX1_joinsIn_14 : decode cX1_joinsIn 14 = .ok (.iload_n 1, 1) := by decide +kernel
theorem dX1_joinsIn_15 : decode cX1_joinsIn 15 = .ok (.iconst 0, 1) := by decide +kernel
theorem dX1_joinsIn_16 : decode cX1_joinsIn 16 = .ok (.invokevirtual 63, 3) := by decide +kernel
theorem dX1_joinsIn_19 : decode cX1_joinsIn 19 = .ok (.ifCond .eq 25, 3) := by decide +kernel
theorem dX1_joinsIn_22 : decode cX1_joinsIn 22 = .ok (.aload_n 0, 1) := by decide +kernel
theorem dX1_joinsIn_23 : decode cX1_joinsIn 23 = .ok (.iload_n 1, 1) := by decide +kernel
theorem dX1_joinsIn_24 : decode cX1_joinsIn 24 = .ok (.iconst 1, 1) := by decide +kernel
theorem dX1_joinsIn_25 : decode cX1_joinsIn 25 = .ok (.invokevirtual 63, 3) := by decide +kernel
theorem dX1_joinsIn_28 : decode cX1_joinsIn 28 = .ok (.ifCond .eq 16, 3) := by decide +kernel
theorem dX1_joinsIn_31 : decode cX1_joinsIn 31 = .ok (.aload_n 0, 1) := by decide +kernel
theorem dX1_joinsIn_32 : decode cX1_joinsIn 32 = .ok (.iload_n 1, 1) := by decide +kernel
theorem dX1_joinsIn_33 : decode cX1_joinsIn 33 = .ok (.iconst 2, 1) := by decide +kernel
theorem dX1_joinsIn_34 : decode cX1_joinsIn 34 = .ok (.invokevirtual 63, 3) := by decide +kernel
theorem dX1_joinsIn_37 : decode cX1_joinsIn 37 = .ok (.ifCond .eq 7, 3) := by decide +kernel
theorem dX1_joinsIn_40 : decode cX1_joinsIn 40 = .ok (.iconst 1, 1) := by decide +kernel
theorem dX1_joinsIn_41 : decode cX1_joinsIn 41 = .ok (.goto 4, 3) := by decide +kernel
theorem dX1_joinsIn_44 : decode cX1_joinsIn 44 = .ok (.iconst 0, 1) := by decide +kernel
theorem dX1_joinsIn_45 : decode cX1_joinsIn 45 = .ok (.ireturn, 1) := by decide +kernel
theorem dX1_joinsIn_46 : decode cX1_joinsIn 46 = .ok (.aload_n 0, 1) := by decide +kernel
theorem dX1_joinsIn_47 : decode cX1_joinsIn 47 = .ok (.iload_n 1, 1) := by decide +kernel
theorem dX1_joinsIn_48 : decode cX1_joinsIn 48 = .ok (.iload_n 2, 1) := by decide +kernel
theorem dX1_joinsIn_49 : decode cX1_joinsIn 49 = .ok (.invokevirtual 63, 3) := by decide +kernel
theorem dX1_joinsIn_52 : decode cX1_joinsIn 52 = .ok (.ireturn, 1) := by decide +kernel
set_option maxRecDepth 20000 in
theorem ggX1_commutes_X1_times : GoodIn wsX1_commutes wsX1_times := goodIn_r _ [6, 7, 8, 9, 5, 10, 11, 12, 13, 14] (by decide +kernel) (by decide +kernel)
set_option maxRecDepth 20000 in
theorem gX1_commutes_X1_times : GoodIn wsX1_commutes (wsV RX1 53 RX1 yX1_times wsX1_times) := goodIn_app (goodIn_of _ (by decide +kernel)) ggX1_commutes_X1_times
theorem dX1_commutes_0 : decode cX1_commutes 0 = .ok (.iconst 0, 1) := by decide +kernel
theorem dX1_commutes_1 : decode cX1_commutes 1 = .ok (.istore_n 2, 1) := by decide +kernel
theorem dX1_commutes_2 : decode cX1_commutes 2 = .ok (.iload_n 2, 1) := by decide +kernel
theorem dX1_commutes_3 : decode cX1_commutes 3 = .ok (.aload_n 0, 1) := by decide +kernel
theorem dX1_commutes_4 : decode cX1_commutes 4 = .ok (.getfield 9, 3) := by decide +kernel
theorem dX1_commutes_7 : decode cX1_commutes 7 = .ok (.if_icmp .ge 30, 3) := by decide +kernel
theorem dX1_commutes_10 : decode cX1_commutes 10 = .ok (.aload_n 0, 1) := by decide +kernel
theorem dX1_commutes_11 : decode cX1_commutes 11 = .ok (.iload_n 1, 1) := by decide +kernel
theorem dX1_commutes_12 : decode cX1_commutes 12 = .ok (.iconst 1, 1) := by decide +kernel
theorem dX1_commutes_13 : decode cX1_commutes 13 = .ok (.iload_n 2, 1) := by decide +kernel
theorem dX1_commutes_14 : decode cX1_commutes 14 = .ok (.ishl, 1) := by decide +kernel
theorem dX1_commutes_15 : decode cX1_commutes 15 = .ok (.invokevirtual 53, 3) := by decide +kernel
theorem dX1_commutes_18 : decode cX1_commutes 18 = .ok (.aload_n 0, 1) := by decide +kernel
theorem dX1_commutes_19 : decode cX1_commutes 19 = .ok (.iconst 1, 1) := by decide +kernel
theorem dX1_commutes_20 : decode cX1_commutes 20 = .ok (.iload_n 2, 1) := by decide +kernel
theorem dX1_commutes_21 : decode cX1_commutes 21 = .ok (.ishl, 1) := by decide +kernel
theorem dX1_commutes_22 : decode cX1_commutes 22 = .ok (.iload_n 1, 1) := by decide +kernel
theorem dX1_commutes_23 : decode cX1_commutes 23 = .ok (.invokevirtual 53, 3) := by decide +kernel
theorem dX1_commutes_26 : decode cX1_commutes 26 = .ok (.if_icmp .eq 5, 3) := by decide +kernel
theorem dX1_commutes_29 : decode cX1_commutes 29 = .ok (.iconst 0, 1) := by decide +kernel
theorem dX1_commutes_30 : decode cX1_commutes 30 = .ok (.ireturn, 1) := by decide +kernel
theorem dX1_commutes_31 : decode cX1_commutes 31 = .ok (.iinc 2 1, 3) := by decide +kernel
theorem dX1_commutes_34 : decode cX1_commutes 34 = .ok (.goto (-32), 3) := by decide +kernel
theorem dX1_commutes_37 : decode cX1_commutes 37 = .ok (.iconst 1, 1) := by decide +kernel
theorem dX1_commutes_38 : decode cX1_commutes 38 = .ok (.ireturn, 1) := by decide +kernel
set_option maxRecDepth 20000 in
theorem ggX1_associates_X1_associatesWith : GoodIn wsX1_associates wsX1_associatesWith := goodIn_r _ [6, 7, 8, 9, 5, 10, 11, 12, 13, 14, 15, 16, 17, 18, 19, 20, 21, 22] (by decide +kernel) (by decide +kernel)
set_option maxRecDepth 20000 in
theorem gX1_associates_X1_associatesWith : GoodIn wsX1_associates (wsV RX1 67 RX1 yX1_associatesWith wsX1_associatesWith) := goodIn_app (goodIn_of _ (by decide +kernel)) ggX1_associates_X1_associatesWith
theorem dX1_associates_0 : decode cX1_associates 0 = .ok (.iconst 0, 1) := by decide +kernel
theorem dX1_associates_1 : decode cX1_associates 1 = .ok (.istore_n 3, 1) := by decide +kernel
theorem dX1_associates_2 : decode cX1_associates 2 = .ok (.iload_n 3, 1) := by decide +kernel
theorem dX1_associates_3 : decode cX1_associates 3 = .ok (.aload_n 0, 1) := by decide +kernel
theorem dX1_associates_4 : decode cX1_associates 4 = .ok (.getfield 9, 3) := by decide +kernel
theorem dX1_associates_7 : decode cX1_associates 7 = .ok (.if_icmp .ge 45, 3) := by decide +kernel
theorem dX1_associates_10 : decode cX1_associates 10 = .ok (.iconst 0, 1) := by decide +kernel
theorem dX1_associates_11 : decode cX1_associates 11 = .ok (.istore 4, 2) := by decide +kernel
theorem dX1_associates_13 : decode cX1_associates 13 = .ok (.iload 4, 2) := by decide +kernel
theorem dX1_associates_15 : decode cX1_associates 15 = .ok (.aload_n 0, 1) := by decide +kernel
theorem dX1_associates_16 : decode cX1_associates 16 = .ok (.getfield 9, 3) := by decide +kernel
theorem dX1_associates_19 : decode cX1_associates 19 = .ok (.if_icmp .ge 27, 3) := by decide +kernel
theorem dX1_associates_22 : decode cX1_associates 22 = .ok (.aload_n 0, 1) := by decide +kernel
theorem dX1_associates_23 : decode cX1_associates 23 = .ok (.iload_n 1, 1) := by decide +kernel
theorem dX1_associates_24 : decode cX1_associates 24 = .ok (.iconst 1, 1) := by decide +kernel
theorem dX1_associates_25 : decode cX1_associates 25 = .ok (.iload_n 3, 1) := by decide +kernel
theorem dX1_associates_26 : decode cX1_associates 26 = .ok (.ishl, 1) := by decide +kernel
theorem dX1_associates_27 : decode cX1_associates 27 = .ok (.iconst 1, 1) := by decide +kernel
theorem dX1_associates_28 : decode cX1_associates 28 = .ok (.iload 4, 2) := by decide +kernel
theorem dX1_associates_30 : decode cX1_associates 30 = .ok (.ishl, 1) := by decide +kernel
theorem dX1_associates_31 : decode cX1_associates 31 = .ok (.iload_n 2, 1) := by decide +kernel
theorem dX1_associates_32 : decode cX1_associates 32 = .ok (.invokevirtual 67, 3) := by decide +kernel
theorem dX1_associates_35 : decode cX1_associates 35 = .ok (.ifCond .ne 5, 3) := by decide +kernel
theorem dX1_associates_38 : decode cX1_associates 38 = .ok (.iconst 0, 1) := by decide +kernel
theorem dX1_associates_39 : decode cX1_associates 39 = .ok (.ireturn, 1) := by decide +kernel
theorem dX1_associates_40 : decode cX1_associates 40 = .ok (.iinc 4 1, 3) := by decide +kernel
theorem dX1_associates_43 : decode cX1_associates 43 = .ok (.goto (-30), 3) := by decide +kernel
theorem dX1_associates_46 : decode cX1_associates 46 = .ok (.iinc 3 1, 3) := by decide +kernel
theorem dX1_associates_49 : decode cX1_associates 49 = .ok (.goto (-47), 3) := by decide +kernel
theorem dX1_associates_52 : decode cX1_associates 52 = .ok (.iconst 1, 1) := by decide +kernel
theorem dX1_associates_53 : decode cX1_associates 53 = .ok (.ireturn, 1) := by decide +kernel
set_option maxRecDepth 20000 in
theorem ggX1_associatesWith_X1_isOneProduct : GoodIn wsX1_associatesWith wsX1_isOneProduct := goodIn_r _ [5, 6, 7, 8, 4, 9, 10, 11, 12, 13, 14, 15, 16, 17] (by decide +kernel) (by decide +kernel)
set_option maxRecDepth 20000 in
theorem gX1_associatesWith_X1_isOneProduct : GoodIn wsX1_associatesWith (wsV RX1 71 RX1 yX1_isOneProduct wsX1_isOneProduct) := goodIn_app (goodIn_of _ (by decide +kernel)) ggX1_associatesWith_X1_isOneProduct
theorem dX1_associatesWith_0 : decode cX1_associatesWith 0 = .ok (.iload 4, 2) := by decide +kernel
theorem dX1_associatesWith_2 : decode cX1_associatesWith 2 = .ok (.lookupswitch 42 #[(0, 26), (1, 34)], 26) := by decide +kernel
theorem dX1_associatesWith_28 : decode cX1_associatesWith 28 = .ok (.aload_n 0, 1) := by decide +kernel
theorem dX1_associatesWith_29 : decode cX1_associatesWith 29 = .ok (.iload_n 1, 1) := by decide +kernel
theorem dX1_associatesWith_30 : decode cX1_associatesWith 30 = .ok (.iload_n 2, 1) := by decide +kernel
theorem dX1_associatesWith_31 : decode cX1_associatesWith 31 = .ok (.iload_n 3, 1) := by decide +kernel
theorem dX1_associatesWith_32 : decode cX1_associatesWith 32 = .ok (.invokevirtual 71, 3) := by decide +kernel
theorem dX1_associatesWith_35 : decode cX1_associatesWith 35 = .ok (.ireturn, 1) := by decide +kernel
theorem dX1_associatesWith_36 : decode cX1_associatesWith 36 = .ok (.aload_n 0, 1) := by decide +kernel
theorem dX1_associatesWith_37 : decode cX1_associatesWith 37 = .ok (.iload_n 2, 1) := by decide +kernel
theorem dX1_associatesWith_38 : decode cX1_associatesWith 38 = .ok (.iload_n 1, 1) := by decide +kernel
theorem dX1_associatesWith_39 : decode cX1_associatesWith 39 = .ok (.iload_n 3, 1) := by decide +kernel
theorem dX1_associatesWith_40 : decode cX1_associatesWith 40 = .ok (.invokevirtual 71, 3) := by decide +kernel
theorem dX1_associatesWith_43 : decode cX1_associatesWith 43 = .ok (.ireturn, 1) := by decide +kernel
theorem dX1_associatesWith_44 : decode cX1_associatesWith 44 = .ok (.aload_n 0, 1) := by decide +kernel
theorem dX1_associatesWith_45 : decode cX1_associatesWith 45 = .ok (.iload_n 2, 1) := by decide +kernel
theorem dX1_associatesWith_46 : decode cX1_associatesWith 46 = .ok (.iload_n 3, 1) := by decide +kernel
theorem dX1_associatesWith_47 : decode cX1_associatesWith 47 = .ok (.iload_n 1, 1) := by decide +kernel
theorem dX1_associatesWith_48 : decode cX1_associatesWith 48 = .ok (.invokevirtual 71, 3) := by decide +kernel
theorem dX1_associatesWith_51 : decode cX1_associatesWith 51 = .ok (.ireturn, 1) := by decide +kernel
set_option maxRecDepth 20000 in
theorem ggX1_isOneProduct_X1_times : GoodIn wsX1_isOneProduct wsX1_times := goodIn_r _ [5, 6, 7, 8, 4, 9, 10, 11, 12, 13] (by decide +kernel) (by decide +kernel)
set_option maxRecDepth 20000 in
theorem gX1_isOneProduct_X1_times : GoodIn wsX1_isOneProduct (wsV RX1 53 RX1 yX1_times wsX1_times) := goodIn_app (goodIn_of _ (by decide +kernel)) ggX1_isOneProduct_X1_times
theorem dX1_isOneProduct_0 : decode cX1_isOneProduct 0 = .ok (.aload_n 0, 1) := by decide +kernel
theorem dX1_isOneProduct_1 : decode cX1_isOneProduct 1 = .ok (.iload_n 1, 1) := by decide +kernel
theorem dX1_isOneProduct_2 : decode cX1_isOneProduct 2 = .ok (.aload_n 0, 1) := by decide +kernel
theorem dX1_isOneProduct_3 : decode cX1_isOneProduct 3 = .ok (.iload_n 2, 1) := by decide +kernel
theorem dX1_isOneProduct_4 : decode cX1_isOneProduct 4 = .ok (.iload_n 3, 1) := by decide +kernel
theorem dX1_isOneProduct_5 : decode cX1_isOneProduct 5 = .ok (.invokevirtual 53, 3) := by decide +kernel
theorem dX1_isOneProduct_8 : decode cX1_isOneProduct 8 = .ok (.invokevirtual 53, 3) := by decide +kernel
theorem dX1_isOneProduct_11 : decode cX1_isOneProduct 11 = .ok (.aload_n 0, 1) := by decide +kernel
theorem dX1_isOneProduct_12 : decode cX1_isOneProduct 12 = .ok (.aload_n 0, 1) := by decide +kernel
theorem dX1_isOneProduct_13 : decode cX1_isOneProduct 13 = .ok (.iload_n 1, 1) := by decide +kernel
theorem dX1_isOneProduct_14 : decode cX1_isOneProduct 14 = .ok (.iload_n 2, 1) := by decide +kernel
theorem dX1_isOneProduct_15 : decode cX1_isOneProduct 15 = .ok (.invokevirtual 53, 3) := by decide +kernel
theorem dX1_isOneProduct_18 : decode cX1_isOneProduct 18 = .ok (.iload_n 3, 1) := by decide +kernel
theorem dX1_isOneProduct_19 : decode cX1_isOneProduct 19 = .ok (.invokevirtual 53, 3) := by decide +kernel
theorem dX1_isOneProduct_22 : decode cX1_isOneProduct 22 = .ok (.if_icmp .ne 7, 3) := by decide +kernel
theorem dX1_isOneProduct_25 : decode cX1_isOneProduct 25 = .ok (.iconst 1, 1) := by decide +kernel
theorem dX1_isOneProduct_26 : decode cX1_isOneProduct 26 = .ok (.goto 4, 3) := by decide +kernel
theorem dX1_isOneProduct_29 : decode cX1_isOneProduct 29 = .ok (.iconst 0, 1) := by decide +kernel
theorem dX1_isOneProduct_30 : decode cX1_isOneProduct 30 = .ok (.ireturn, 1) := by decide +kernel
set_option maxRecDepth 20000 in
theorem ggX1_countUnlike_X1_times : GoodIn wsX1_countUnlike wsX1_times := goodIn_r _ [6, 7, 8, 9, 5, 10, 11, 12, 13, 14] (by decide +kernel) (by decide +kernel)
set_option maxRecDepth 20000 in
theorem gX1_countUnlike_X1_times : GoodIn wsX1_countUnlike (wsV RX1 53 RX1 yX1_times wsX1_times) := goodIn_app (goodIn_of _ (by decide +kernel)) ggX1_countUnlike_X1_times
theorem dX1_countUnlike_0 : decode cX1_countUnlike 0 = .ok (.iconst 0, 1) := by decide +kernel
theorem dX1_countUnlike_1 : decode cX1_countUnlike 1 = .ok (.istore_n 1, 1) := by decide +kernel
theorem dX1_countUnlike_2 : decode cX1_countUnlike 2 = .ok (.iconst 0, 1) := by decide +kernel
theorem dX1_countUnlike_3 : decode cX1_countUnlike 3 = .ok (.istore_n 2, 1) := by decide +kernel
theorem dX1_countUnlike_4 : decode cX1_countUnlike 4 = .ok (.iload_n 2, 1) := by decide +kernel
theorem dX1_countUnlike_5 : decode cX1_countUnlike 5 = .ok (.aload_n 0, 1) := by decide +kernel
theorem dX1_countUnlike_6 : decode cX1_countUnlike 6 = .ok (.getfield 15, 3) := by decide +kernel
theorem dX1_countUnlike_9 : decode cX1_countUnlike 9 = .ok (.if_icmp .ge 43, 3) := by decide +kernel
theorem dX1_countUnlike_12 : decode cX1_countUnlike 12 = .ok (.iconst 0, 1) := by decide +kernel
theorem dX1_countUnlike_13 : decode cX1_countUnlike 13 = .ok (.istore_n 3, 1) := by decide +kernel
theorem dX1_countUnlike_14 : decode cX1_countUnlike 14 = .ok (.iload_n 3, 1) := by decide +kernel
theorem dX1_countUnlike_15 : decode cX1_countUnlike 15 = .ok (.aload_n 0, 1) := by decide +kernel
theorem dX1_countUnlike_16 : decode cX1_countUnlike 16 = .ok (.getfield 15, 3) := by decide +kernel
theorem dX1_countUnlike_19 : decode cX1_countUnlike 19 = .ok (.if_icmp .ge 27, 3) := by decide +kernel
theorem dX1_countUnlike_22 : decode cX1_countUnlike 22 = .ok (.aload_n 0, 1) := by decide +kernel
theorem dX1_countUnlike_23 : decode cX1_countUnlike 23 = .ok (.iload_n 2, 1) := by decide +kernel
theorem dX1_countUnlike_24 : decode cX1_countUnlike 24 = .ok (.iload_n 3, 1) := by decide +kernel
theorem dX1_countUnlike_25 : decode cX1_countUnlike 25 = .ok (.invokevirtual 53, 3) := by decide +kernel
theorem dX1_countUnlike_28 : decode cX1_countUnlike 28 = .ok (.aload_n 0, 1) := by decide +kernel
theorem dX1_countUnlike_29 : decode cX1_countUnlike 29 = .ok (.iload_n 3, 1) := by decide +kernel
theorem dX1_countUnlike_30 : decode cX1_countUnlike 30 = .ok (.iload_n 2, 1) := by decide +kernel
theorem dX1_countUnlike_31 : decode cX1_countUnlike 31 = .ok (.invokevirtual 53, 3) := by decide +kernel
theorem dX1_countUnlike_34 : decode cX1_countUnlike 34 = .ok (.if_icmp .eq 6, 3) := by decide +kernel
theorem dX1_countUnlike_37 : decode cX1_countUnlike 37 = .ok (.iinc 1 1, 3) := by decide +kernel
theorem dX1_countUnlike_40 : decode cX1_countUnlike 40 = .ok (.iinc 3 1, 3) := by decide +kernel
theorem dX1_countUnlike_43 : decode cX1_countUnlike 43 = .ok (.goto (-29), 3) := by decide +kernel
theorem dX1_countUnlike_46 : decode cX1_countUnlike 46 = .ok (.iinc 2 1, 3) := by decide +kernel
theorem dX1_countUnlike_49 : decode cX1_countUnlike 49 = .ok (.goto (-45), 3) := by decide +kernel
theorem dX1_countUnlike_52 : decode cX1_countUnlike 52 = .ok (.iload_n 1, 1) := by decide +kernel
theorem dX1_countUnlike_53 : decode cX1_countUnlike 53 = .ok (.ireturn, 1) := by decide +kernel
set_option maxRecDepth 20000 in
theorem ggX1_rankOf_X1_times : GoodIn wsX1_rankOf wsX1_times := goodIn_r _ [7, 8, 9, 10, 6, 11, 19, 20, 21, 22] (by decide +kernel) (by decide +kernel)
set_option maxRecDepth 20000 in
theorem gX1_rankOf_X1_times : GoodIn wsX1_rankOf (wsV RX1 53 RX1 yX1_times wsX1_times) := goodIn_app (goodIn_of _ (by decide +kernel)) ggX1_rankOf_X1_times
set_option maxRecDepth 20000 in
theorem ggX1_rankOf_J6_bitCount_0f7a4 : GoodIn wsX1_rankOf wsJ6_bitCount_0f7a4 := goodIn_r _ [15, 16, 17, 18] (by decide +kernel) (by decide +kernel)
set_option maxRecDepth 20000 in
theorem gX1_rankOf_J6_bitCount_0f7a4 : GoodIn wsX1_rankOf (va_wsS RX1 75 yJ6_bitCount_0f7a4 wsJ6_bitCount_0f7a4) := goodIn_app (goodIn_of _ (by decide +kernel)) ggX1_rankOf_J6_bitCount_0f7a4
theorem dX1_rankOf_0 : decode cX1_rankOf 0 = .ok (.iconst 0, 1) := by decide +kernel
theorem dX1_rankOf_1 : decode cX1_rankOf 1 = .ok (.istore_n 2, 1) := by decide +kernel
theorem dX1_rankOf_2 : decode cX1_rankOf 2 = .ok (.iconst 0, 1) := by decide +kernel
theorem dX1_rankOf_3 : decode cX1_rankOf 3 = .ok (.istore_n 3, 1) := by decide +kernel
theorem dX1_rankOf_4 : decode cX1_rankOf 4 = .ok (.iload_n 3, 1) := by decide +kernel
theorem dX1_rankOf_5 : decode cX1_rankOf 5 = .ok (.aload_n 0, 1) := by decide +kernel
theorem dX1_rankOf_6 : decode cX1_rankOf 6 = .ok (.getfield 15, 3) := by decide +kernel
theorem dX1_rankOf_9 : decode cX1_rankOf 9 = .ok (.if_icmp .ge 20, 3) := by decide +kernel
theorem dX1_rankOf_12 : decode cX1_rankOf 12 = .ok (.iload_n 2, 1) := by decide +kernel
theorem dX1_rankOf_13 : decode cX1_rankOf 13 = .ok (.iconst 1, 1) := by decide +kernel
theorem dX1_rankOf_14 : decode cX1_rankOf 14 = .ok (.aload_n 0, 1) := by decide +kernel
theorem dX1_rankOf_15 : decode cX1_rankOf 15 = .ok (.iload_n 3, 1) := by decide +kernel
theorem dX1_rankOf_16 : decode cX1_rankOf 16 = .ok (.iload_n 1, 1) := by decide +kernel
theorem dX1_rankOf_17 : decode cX1_rankOf 17 = .ok (.invokevirtual 53, 3) := by decide +kernel
theorem dX1_rankOf_20 : decode cX1_rankOf 20 = .ok (.ishl, 1) := by decide +kernel
theorem dX1_rankOf_21 : decode cX1_rankOf 21 = .ok (.ior, 1) := by decide +kernel
theorem dX1_rankOf_22 : decode cX1_rankOf 22 = .ok (.istore_n 2, 1) := by decide +kernel
theorem dX1_rankOf_23 : decode cX1_rankOf 23 = .ok (.iinc 3 1, 3) := by decide +kernel
theorem dX1_rankOf_26 : decode cX1_rankOf 26 = .ok (.goto (-22), 3) := by decide +kernel
theorem dX1_rankOf_29 : decode cX1_rankOf 29 = .ok (.iload_n 2, 1) := by decide +kernel
theorem dX1_rankOf_30 : decode cX1_rankOf 30 = .ok (.invokestatic 75, 3) := by decide +kernel
theorem dX1_rankOf_33 : decode cX1_rankOf 33 = .ok (.istore_n 3, 1) := by decide +kernel
theorem dX1_rankOf_34 : decode cX1_rankOf 34 = .ok (.iconst 0, 1) := by decide +kernel
theorem dX1_rankOf_35 : decode cX1_rankOf 35 = .ok (.istore 4, 2) := by decide +kernel
theorem dX1_rankOf_37 : decode cX1_rankOf 37 = .ok (.iload 4, 2) := by decide +kernel
theorem dX1_rankOf_39 : decode cX1_rankOf 39 = .ok (.aload_n 0, 1) := by decide +kernel
theorem dX1_rankOf_40 : decode cX1_rankOf 40 = .ok (.getfield 9, 3) := by decide +kernel
theorem dX1_rankOf_43 : decode cX1_rankOf 43 = .ok (.if_icmp .ge 17, 3) := by decide +kernel
theorem dX1_rankOf_46 : decode cX1_rankOf 46 = .ok (.iconst 1, 1) := by decide +kernel
theorem dX1_rankOf_47 : decode cX1_rankOf 47 = .ok (.iload 4, 2) := by decide +kernel
theorem dX1_rankOf_49 : decode cX1_rankOf 49 = .ok (.ishl, 1) := by decide +kernel
theorem dX1_rankOf_50 : decode cX1_rankOf 50 = .ok (.iload_n 3, 1) := by decide +kernel
theorem dX1_rankOf_51 : decode cX1_rankOf 51 = .ok (.if_icmp .ge 9, 3) := by decide +kernel
theorem dX1_rankOf_54 : decode cX1_rankOf 54 = .ok (.iinc 4 1, 3) := by decide +kernel
theorem dX1_rankOf_57 : decode cX1_rankOf 57 = .ok (.goto (-20), 3) := by decide +kernel
theorem dX1_rankOf_60 : decode cX1_rankOf 60 = .ok (.iload 4, 2) := by decide +kernel
theorem dX1_rankOf_62 : decode cX1_rankOf 62 = .ok (.ireturn, 1) := by decide +kernel
theorem dJ6_bitCount_0f7a4_0 : decode cJ6_bitCount_0f7a4 0 = .ok (.iload_n 0, 1) := by decide +kernel
theorem dJ6_bitCount_0f7a4_1 : decode cJ6_bitCount_0f7a4 1 = .ok (.iload_n 0, 1) := by decide +kernel
theorem dJ6_bitCount_0f7a4_2 : decode cJ6_bitCount_0f7a4 2 = .ok (.iconst 1, 1) := by decide +kernel
theorem dJ6_bitCount_0f7a4_3 : decode cJ6_bitCount_0f7a4 3 = .ok (.iushr, 1) := by decide +kernel
theorem dJ6_bitCount_0f7a4_4 : decode cJ6_bitCount_0f7a4 4 = .ok (.ldc_w 265, 3) := by decide +kernel
theorem dJ6_bitCount_0f7a4_7 : decode cJ6_bitCount_0f7a4 7 = .ok (.iand, 1) := by decide +kernel
theorem dJ6_bitCount_0f7a4_8 : decode cJ6_bitCount_0f7a4 8 = .ok (.isub, 1) := by decide +kernel
theorem dJ6_bitCount_0f7a4_9 : decode cJ6_bitCount_0f7a4 9 = .ok (.istore_n 0, 1) := by decide +kernel
theorem dJ6_bitCount_0f7a4_10 : decode cJ6_bitCount_0f7a4 10 = .ok (.iload_n 0, 1) := by decide +kernel
theorem dJ6_bitCount_0f7a4_11 : decode cJ6_bitCount_0f7a4 11 = .ok (.ldc_w 266, 3) := by decide +kernel
theorem dJ6_bitCount_0f7a4_14 : decode cJ6_bitCount_0f7a4 14 = .ok (.iand, 1) := by decide +kernel
theorem dJ6_bitCount_0f7a4_15 : decode cJ6_bitCount_0f7a4 15 = .ok (.iload_n 0, 1) := by decide +kernel
theorem dJ6_bitCount_0f7a4_16 : decode cJ6_bitCount_0f7a4 16 = .ok (.iconst 2, 1) := by decide +kernel
theorem dJ6_bitCount_0f7a4_17 : decode cJ6_bitCount_0f7a4 17 = .ok (.iushr, 1) := by decide +kernel
theorem dJ6_bitCount_0f7a4_18 : decode cJ6_bitCount_0f7a4 18 = .ok (.ldc_w 266, 3) := by decide +kernel
theorem dJ6_bitCount_0f7a4_21 : decode cJ6_bitCount_0f7a4 21 = .ok (.iand, 1) := by decide +kernel
theorem dJ6_bitCount_0f7a4_22 : decode cJ6_bitCount_0f7a4 22 = .ok (.iadd, 1) := by decide +kernel
theorem dJ6_bitCount_0f7a4_23 : decode cJ6_bitCount_0f7a4 23 = .ok (.istore_n 0, 1) := by decide +kernel
theorem dJ6_bitCount_0f7a4_24 : decode cJ6_bitCount_0f7a4 24 = .ok (.iload_n 0, 1) := by decide +kernel
theorem dJ6_bitCount_0f7a4_25 : decode cJ6_bitCount_0f7a4 25 = .ok (.iload_n 0, 1) := by decide +kernel
theorem dJ6_bitCount_0f7a4_26 : decode cJ6_bitCount_0f7a4 26 = .ok (.iconst 4, 1) := by decide +kernel
theorem dJ6_bitCount_0f7a4_27 : decode cJ6_bitCount_0f7a4 27 = .ok (.iushr, 1) := by decide +kernel
theorem dJ6_bitCount_0f7a4_28 : decode cJ6_bitCount_0f7a4 28 = .ok (.iadd, 1) := by decide +kernel
theorem dJ6_bitCount_0f7a4_29 : decode cJ6_bitCount_0f7a4 29 = .ok (.ldc_w 267, 3) := by decide +kernel
theorem dJ6_bitCount_0f7a4_32 : decode cJ6_bitCount_0f7a4 32 = .ok (.iand, 1) := by decide +kernel
theorem dJ6_bitCount_0f7a4_33 : decode cJ6_bitCount_0f7a4 33 = .ok (.istore_n 0, 1) := by decide +kernel
theorem dJ6_bitCount_0f7a4_34 : decode cJ6_bitCount_0f7a4 34 = .ok (.iload_n 0, 1) := by decide +kernel
theorem dJ6_bitCount_0f7a4_35 : decode cJ6_bitCount_0f7a4 35 = .ok (.iload_n 0, 1) := by decide +kernel
theorem dJ6_bitCount_0f7a4_36 : decode cJ6_bitCount_0f7a4 36 = .ok (.bipush 8, 2) := by decide +kernel
theorem dJ6_bitCount_0f7a4_38 : decode cJ6_bitCount_0f7a4 38 = .ok (.iushr, 1) := by decide +kernel
theorem dJ6_bitCount_0f7a4_39 : decode cJ6_bitCount_0f7a4 39 = .ok (.iadd, 1) := by decide +kernel
theorem dJ6_bitCount_0f7a4_40 : decode cJ6_bitCount_0f7a4 40 = .ok (.istore_n 0, 1) := by decide +kernel
theorem dJ6_bitCount_0f7a4_41 : decode cJ6_bitCount_0f7a4 41 = .ok (.iload_n 0, 1) := by decide +kernel
theorem dJ6_bitCount_0f7a4_42 : decode cJ6_bitCount_0f7a4 42 = .ok (.iload_n 0, 1) := by decide +kernel
theorem dJ6_bitCount_0f7a4_43 : decode cJ6_bitCount_0f7a4 43 = .ok (.bipush 16, 2) := by decide +kernel
theorem dJ6_bitCount_0f7a4_45 : decode cJ6_bitCount_0f7a4 45 = .ok (.iushr, 1) := by decide +kernel
theorem dJ6_bitCount_0f7a4_46 : decode cJ6_bitCount_0f7a4 46 = .ok (.iadd, 1) := by decide +kernel
theorem dJ6_bitCount_0f7a4_47 : decode cJ6_bitCount_0f7a4 47 = .ok (.istore_n 0, 1) := by decide +kernel
theorem dJ6_bitCount_0f7a4_48 : decode cJ6_bitCount_0f7a4 48 = .ok (.iload_n 0, 1) := by decide +kernel
theorem dJ6_bitCount_0f7a4_49 : decode cJ6_bitCount_0f7a4 49 = .ok (.bipush 63, 2) := by decide +kernel
theorem dJ6_bitCount_0f7a4_51 : decode cJ6_bitCount_0f7a4 51 = .ok (.iand, 1) := by decide +kernel
theorem dJ6_bitCount_0f7a4_52 : decode cJ6_bitCount_0f7a4 52 = .ok (.ireturn, 1) := by decide +kernel
theorem dJ9_max_7cf53_0 : decode cJ9_max_7cf53 0 = .ok (.iload_n 0, 1) := by decide +kernel
theorem dJ9_max_7cf53_1 : decode cJ9_max_7cf53 1 = .ok (.iload_n 1, 1) := by decide +kernel
theorem dJ9_max_7cf53_2 : decode cJ9_max_7cf53 2 = .ok (.if_icmp .lt 7, 3) := by decide +kernel
theorem dJ9_max_7cf53_5 : decode cJ9_max_7cf53 5 = .ok (.iload_n 0, 1) := by decide +kernel
theorem dJ9_max_7cf53_6 : decode cJ9_max_7cf53 6 = .ok (.goto 4, 3) := by decide +kernel
theorem dJ9_max_7cf53_9 : decode cJ9_max_7cf53 9 = .ok (.iload_n 1, 1) := by decide +kernel
theorem dJ9_max_7cf53_10 : decode cJ9_max_7cf53 10 = .ok (.ireturn, 1) := by decide +kernel
theorem dJ9_min_7cf53_0 : decode cJ9_min_7cf53 0 = .ok (.iload_n 0, 1) := by decide +kernel
theorem dJ9_min_7cf53_1 : decode cJ9_min_7cf53 1 = .ok (.iload_n 1, 1) := by decide +kernel
theorem dJ9_min_7cf53_2 : decode cJ9_min_7cf53 2 = .ok (.if_icmp .gt 7, 3) := by decide +kernel
theorem dJ9_min_7cf53_5 : decode cJ9_min_7cf53 5 = .ok (.iload_n 0, 1) := by decide +kernel
theorem dJ9_min_7cf53_6 : decode cJ9_min_7cf53 6 = .ok (.goto 4, 3) := by decide +kernel
theorem dJ9_min_7cf53_9 : decode cJ9_min_7cf53 9 = .ok (.iload_n 1, 1) := by decide +kernel
theorem dJ9_min_7cf53_10 : decode cJ9_min_7cf53 10 = .ok (.ireturn, 1) := by decide +kernel
end
section
set_option maxRecDepth 20000 in
theorem ggX2_init_X1_init : GoodIn wsX2_init wsX1_init := goodIn_r _ [18, 19, 2, 3, 20, 21, 7, 22, 23, 24, 25, 26, 10, 27, 28, 29, 30, 31, 32, 33, 34, 35, 36, 37, 38, 39, 40, 41, 42, 43, 44, 45, 53, 54, 55, 56] (by decide +kernel) (by decide +kernel)
set_option maxRecDepth 20000 in
theorem gX2_init_X1_init : GoodIn wsX2_init (wsX1_init) := ggX2_init_X1_init
theorem dX2_init_0 : decode cX2_init 0 = .ok (.aload_n 0, 1) := by decide +kernel
theorem dX2_init_1 : decode cX2_init 1 = .ok (.invokespecial 1, 3) := by decide +kernel
theorem dX2_init_4 : decode cX2_init 4 = .ok (.aload_n 0, 1) := by decide +kernel
theorem dX2_init_5 : decode cX2_init 5 = .ok (.iconst 4, 1) := by decide +kernel
theorem dX2_init_6 : decode cX2_init 6 = .ok (.anewarray 9, 3) := by decide +kernel
theorem dX2_init_9 : decode cX2_init 9 = .ok (.putfield 11, 3) := by decide +kernel
theorem dX2_init_12 : decode cX2_init 12 = .ok (.aload_n 0, 1) := by decide +kernel
theorem dX2_init_13 : decode cX2_init 13 = .ok (.iconst 3, 1) := by decide +kernel
theorem dX2_init_14 : decode cX2_init 14 = .ok (.iconst 4, 1) := by decide +kernel
theorem dX2_init_15 : decode cX2_init 15 = .ok (.multianewarray 15 2, 4) := by decide +kernel
theorem dX2_init_19 : decode cX2_init 19 = .ok (.putfield 17, 3) := by decide +kernel
theorem dX2_init_22 : decode cX2_init 22 = .ok (.aload_n 0, 1) := by decide +kernel
theorem dX2_init_23 : decode cX2_init 23 = .ok (.new 9, 3) := by decide +kernel
theorem dX2_init_26 : decode cX2_init 26 = .ok (.dup, 1) := by decide +kernel
theorem dX2_init_27 : decode cX2_init 27 = .ok (.invokespecial 20, 3) := by decide +kernel
theorem dX2_init_30 : decode cX2_init 30 = .ok (.putfield 21, 3) := by decide +kernel
theorem dX2_init_33 : decode cX2_init 33 = .ok (.aload_n 0, 1) := by decide +kernel
theorem dX2_init_34 : decode cX2_init 34 = .ok (.bipush 16, 2) := by decide +kernel
theorem dX2_init_36 : decode cX2_init 36 = .ok (.newarray .int, 2) := by decide +kernel
theorem dX2_init_38 : decode cX2_init 38 = .ok (.putfield 25, 3) := by decide +kernel
theorem dX2_init_41 : decode cX2_init 41 = .ok (.aload_n 0, 1) := by decide +kernel
theorem dX2_init_42 : decode cX2_init 42 = .ok (.iconst 4, 1) := by decide +kernel
theorem dX2_init_43 : decode cX2_init 43 = .ok (.newarray .int, 2) := by decide +kernel
theorem dX2_init_45 : decode cX2_init 45 = .ok (.putfield 29, 3) := by decide +kernel
theorem dX2_init_48 : decode cX2_init 48 = .ok (.aload_n 0, 1) := by decide +kernel
theorem dX2_init_49 : decode cX2_init 49 = .ok (.iconst 4, 1) := by decide +kernel
theorem dX2_init_50 : decode cX2_init 50 = .ok (.newarray .int, 2) := by decide +kernel
theorem dX2_init_52 : decode cX2_init 52 = .ok (.putfield 32, 3) := by decide +kernel
theorem dX2_init_55 : decode cX2_init 55 = .ok (.aload_n 0, 1) := by decide +kernel
theorem dX2_init_56 : decode cX2_init 56 = .ok (.iconst 4, 1) := by decide +kernel
theorem dX2_init_57 : decode cX2_init 57 = .ok (.newarray .int, 2) := by decide +kernel
theorem dX2_init_59 : decode cX2_init 59 = .ok (.putfield 35, 3) := by decide +kernel
theorem dX2_init_62 : decode cX2_init 62 = .ok (.iconst 0, 1) := by decide +kernel
theorem dX2_init_63 : decode cX2_init 63 = .ok (.istore_n 1, 1) := by decide +kernel
theorem dX2_init_64 : decode cX2_init 64 = .ok (.iload_n 1, 1) := by decide +kernel
theorem dX2_init_65 : decode cX2_init 65 = .ok (.aload_n 0, 1) := by decide +kernel
theorem dX2_init_66 : decode cX2_init 66 = .ok (.getfield 11, 3) := by decide +kernel
theorem dX2_init_69 : decode cX2_init 69 = .ok (.arraylength, 1) := by decide +kernel
theorem dX2_init_70 : decode cX2_init 70 = .ok (.if_icmp .ge 22, 3) := by decide +kernel
theorem dX2_init_73 : decode cX2_init 73 = .ok (.aload_n 0, 1) := by decide +kernel
theorem dX2_init_74 : decode cX2_init 74 = .ok (.getfield 11, 3) := by decide +kernel
theorem dX2_init_77 : decode cX2_init 77 = .ok (.iload_n 1, 1) := by decide +kernel
theorem dX2_init_78 : decode cX2_init 78 = .ok (.new 9, 3) := by decide +kernel
theorem dX2_init_81 : decode cX2_init 81 = .ok (.dup, 1) := by decide +kernel
theorem dX2_init_82 : decode cX2_init 82 = .ok (.invokespecial 20, 3) := by decide +kernel
theorem dX2_init_85 : decode cX2_init 85 = .ok (.aastore, 1) := by decide +kernel
theorem dX2_init_86 : decode cX2_init 86 = .ok (.iinc 1 1, 3) := by decide +kernel
theorem dX2_init_89 : decode cX2_init 89 = .ok (.goto (-25), 3) := by decide +kernel
theorem dX2_init_92 : decode cX2_init 92 = .ok (.return_, 1) := by decide +kernel
set_option maxRecDepth 20000 in
theorem ggX2_world_X2_worldIn : GoodIn wsX2_world wsX2_worldIn := goodIn_r _ [6, 7, 42, 43, 44, 45, 46, 47, 48] (by decide +kernel) (by decide +kernel)
set_option maxRecDepth 20000 in
theorem gX2_world_X2_worldIn : GoodIn wsX2_world (wsV RX2 38 RX2 yX2_worldIn wsX2_worldIn) := goodIn_app (goodIn_of _ (by decide +kernel)) ggX2_world_X2_worldIn
set_option maxRecDepth 20000 in
theorem ggX2_world_X2_isSomeN : GoodIn wsX2_world wsX2_isSomeN := goodIn_r _ [10] (by decide +kernel) (by decide +kernel)
set_option maxRecDepth 20000 in
theorem gX2_world_X2_isSomeN : GoodIn wsX2_world (va_wsS RX2 42 yX2_isSomeN wsX2_isSomeN) := goodIn_app (goodIn_of _ (by decide +kernel)) ggX2_world_X2_isSomeN
set_option maxRecDepth 20000 in
theorem ggX2_world_X2_cellIndex : GoodIn wsX2_world wsX2_cellIndex := goodIn_r _ [13] (by decide +kernel) (by decide +kernel)
set_option maxRecDepth 20000 in
theorem gX2_world_X2_cellIndex : GoodIn wsX2_world (va_wsS RX2 46 yX2_cellIndex wsX2_cellIndex) := goodIn_app (goodIn_of _ (by decide +kernel)) ggX2_world_X2_cellIndex
set_option maxRecDepth 20000 in
theorem ggX2_world_X1_take : GoodIn wsX2_world wsX1_take := goodIn_r _ [18, 19, 20, 21, 22, 23, 24, 17, 25, 26, 27, 28, 29, 30, 31, 32, 33, 34, 35, 36, 37, 12, 5, 13, 49, 50, 51, 52] (by decide +kernel) (by decide +kernel)
set_option maxRecDepth 20000 in
theorem gX2_world_X1_take : GoodIn wsX2_world (wsV RX2 50 RX1 yX1_take wsX1_take) := goodIn_app (goodIn_of _ (by decide +kernel)) ggX2_world_X1_take
set_option maxRecDepth 20000 in
theorem ggX2_world_X1_size : GoodIn wsX2_world wsX1_size := goodIn_r _ [41, 20, 49, 50, 51, 52] (by decide +kernel) (by decide +kernel)
set_option maxRecDepth 20000 in
theorem gX2_world_X1_size : GoodIn wsX2_world (wsV RX2 54 RX1 yX1_size wsX1_size) := goodIn_app (goodIn_of _ (by decide +kernel)) ggX2_world_X1_size
theorem dX2_world_0 : decode cX2_world 0 = .ok (.aload_n 0, 1) := by decide +kernel
theorem dX2_world_1 : decode cX2_world 1 = .ok (.iload_n 1, 1) := by decide +kernel
theorem dX2_world_2 : decode cX2_world 2 = .ok (.invokevirtual 38, 3) := by decide +kernel
theorem dX2_world_5 : decode cX2_world 5 = .ok (.astore_n 3, 1) := by decide +kernel
theorem dX2_world_6 : decode cX2_world 6 = .ok (.aload_n 3, 1) := by decide +kernel
theorem dX2_world_7 : decode cX2_world 7 = .ok (.ifnonnull 5, 3) := by decide +kernel
theorem dX2_world_10 : decode cX2_world 10 = .ok (.iconst (-1), 1) := by decide +kernel
theorem dX2_world_11 : decode cX2_world 11 = .ok (.ireturn, 1) := by decide +kernel
theorem dX2_world_12 : decode cX2_world 12 = .ok (.iload_n 2, 1) := by decide +kernel
theorem dX2_world_13 : decode cX2_world 13 = .ok (.invokestatic 42, 3) := by decide +kernel
theorem dX2_world_16 : decode cX2_world 16 = .ok (.ifCond .ne 6, 3) := by decide +kernel
theorem dX2_world_19 : decode cX2_world 19 = .ok (.bipush (-2), 2) := by decide +kernel
theorem dX2_world_21 : decode cX2_world 21 = .ok (.ireturn, 1) := by decide +kernel
theorem dX2_world_22 : decode cX2_world 22 = .ok (.iconst 0, 1) := by decide +kernel
theorem dX2_world_23 : decode cX2_world 23 = .ok (.istore 4, 2) := by decide +kernel
theorem dX2_world_25 : decode cX2_world 25 = .ok (.iload 4, 2) := by decide +kernel
theorem dX2_world_27 : decode cX2_world 27 = .ok (.iload_n 2, 1) := by decide +kernel
theorem dX2_world_28 : decode cX2_world 28 = .ok (.if_icmp .ge 37, 3) := by decide +kernel
theorem dX2_world_31 : decode cX2_world 31 = .ok (.iconst 0, 1) := by decide +kernel
theorem dX2_world_32 : decode cX2_world 32 = .ok (.istore 5, 2) := by decide +kernel
theorem dX2_world_34 : decode cX2_world 34 = .ok (.iload 5, 2) := by decide +kernel
theorem dX2_world_36 : decode cX2_world 36 = .ok (.iload_n 2, 1) := by decide +kernel
theorem dX2_world_37 : decode cX2_world 37 = .ok (.if_icmp .ge 22, 3) := by decide +kernel
theorem dX2_world_40 : decode cX2_world 40 = .ok (.aload_n 0, 1) := by decide +kernel
theorem dX2_world_41 : decode cX2_world 41 = .ok (.getfield 25, 3) := by decide +kernel
theorem dX2_world_44 : decode cX2_world 44 = .ok (.iload 4, 2) := by decide +kernel
theorem dX2_world_46 : decode cX2_world 46 = .ok (.iload 5, 2) := by decide +kernel
theorem dX2_world_48 : decode cX2_world 48 = .ok (.invokestatic 46, 3) := by decide +kernel
theorem dX2_world_51 : decode cX2_world 51 = .ok (.iconst 0, 1) := by decide +kernel
theorem dX2_world_52 : decode cX2_world 52 = .ok (.iastore, 1) := by decide +kernel
theorem dX2_world_53 : decode cX2_world 53 = .ok (.iinc 5 1, 3) := by decide +kernel
theorem dX2_world_56 : decode cX2_world 56 = .ok (.goto (-22), 3) := by decide +kernel
theorem dX2_world_59 : decode cX2_world 59 = .ok (.iinc 4 1, 3) := by decide +kernel
theorem dX2_world_62 : decode cX2_world 62 = .ok (.goto (-37), 3) := by decide +kernel
theorem dX2_world_65 : decode cX2_world 65 = .ok (.aload_n 3, 1) := by decide +kernel
theorem dX2_world_66 : decode cX2_world 66 = .ok (.iload_n 2, 1) := by decide +kernel
theorem dX2_world_67 : decode cX2_world 67 = .ok (.aload_n 0, 1) := by decide +kernel
theorem dX2_world_68 : decode cX2_world 68 = .ok (.getfield 25, 3) := by decide +kernel
theorem dX2_world_71 : decode cX2_world 71 = .ok (.invokevirtual 50, 3) := by decide +kernel
theorem dX2_world_74 : decode cX2_world 74 = .ok (.aload_n 3, 1) := by decide +kernel
theorem dX2_world_75 : decode cX2_world 75 = .ok (.invokevirtual 54, 3) := by decide +kernel
theorem dX2_world_78 : decode cX2_world 78 = .ok (.ireturn, 1) := by decide +kernel
set_option maxRecDepth 20000 in
theorem ggX2_put_X2_worldIn : GoodIn wsX2_put wsX2_worldIn := goodIn_r _ [5, 6, 42, 43, 44, 45, 46, 47, 48] (by decide +kernel) (by decide +kernel)
set_option maxRecDepth 20000 in
theorem gX2_put_X2_worldIn : GoodIn wsX2_put (wsV RX2 38 RX2 yX2_worldIn wsX2_worldIn) := goodIn_app (goodIn_of _ (by decide +kernel)) ggX2_put_X2_worldIn
set_option maxRecDepth 20000 in
theorem ggX2_put_X1_has : GoodIn wsX2_put wsX1_has := goodIn_r _ [11, 12, 49, 50, 51, 52] (by decide +kernel) (by decide +kernel)
set_option maxRecDepth 20000 in
theorem gX2_put_X1_has : GoodIn wsX2_put (wsV RX2 58 RX1 yX1_has wsX1_has) := goodIn_app (goodIn_of _ (by decide +kernel)) ggX2_put_X1_has
set_option maxRecDepth 20000 in
theorem ggX2_put_X1_hasBit : GoodIn wsX2_put wsX1_hasBit := goodIn_r _ [16, 17, 49, 50, 51, 52] (by decide +kernel) (by decide +kernel)
set_option maxRecDepth 20000 in
theorem gX2_put_X1_hasBit : GoodIn wsX2_put (wsV RX2 61 RX1 yX1_hasBit wsX1_hasBit) := goodIn_app (goodIn_of _ (by decide +kernel)) ggX2_put_X1_hasBit
set_option maxRecDepth 20000 in
theorem ggX2_put_X1_cell : GoodIn wsX2_put wsX1_cell := goodIn_r _ [21, 22, 23, 4, 24, 49, 50, 51, 52] (by decide +kernel) (by decide +kernel)
set_option maxRecDepth 20000 in
theorem gX2_put_X1_cell : GoodIn wsX2_put (wsV RX2 64 RX1 yX1_cell wsX1_cell) := goodIn_app (goodIn_of _ (by decide +kernel)) ggX2_put_X1_cell
set_option maxRecDepth 20000 in
theorem ggX2_put_X1_changeCell : GoodIn wsX2_put wsX1_changeCell := goodIn_r _ [28, 22, 23, 4, 24, 29, 30, 31, 10, 32, 12, 33, 34, 35, 36, 37, 38, 39, 40, 17, 41, 19, 20, 21, 49, 50, 51, 52] (by decide +kernel) (by decide +kernel)
set_option maxRecDepth 20000 in
theorem gX2_put_X1_changeCell : GoodIn wsX2_put (wsV RX2 67 RX1 yX1_changeCell wsX1_changeCell) := goodIn_app (goodIn_of _ (by decide +kernel)) ggX2_put_X1_changeCell
theorem dX2_put_0 : decode cX2_put 0 = .ok (.aload_n 0, 1) := by decide +kernel
theorem dX2_put_1 : decode cX2_put 1 = .ok (.iload_n 1, 1) := by decide +kernel
theorem dX2_put_2 : decode cX2_put 2 = .ok (.invokevirtual 38, 3) := by decide +kernel
theorem dX2_put_5 : decode cX2_put 5 = .ok (.astore 5, 2) := by decide +kernel
theorem dX2_put_7 : decode cX2_put 7 = .ok (.aload 5, 2) := by decide +kernel
theorem dX2_put_9 : decode cX2_put 9 = .ok (.ifnull 13, 3) := by decide +kernel
theorem dX2_put_12 : decode cX2_put 12 = .ok (.aload 5, 2) := by decide +kernel
theorem dX2_put_14 : decode cX2_put 14 = .ok (.iload 4, 2) := by decide +kernel
theorem dX2_put_16 : decode cX2_put 16 = .ok (.invokevirtual 58, 3) := by decide +kernel
theorem dX2_put_19 : decode cX2_put 19 = .ok (.ifCond .ne 5, 3) := by decide +kernel
theorem dX2_put_22 : decode cX2_put 22 = .ok (.iconst (-1), 1) := by decide +kernel
theorem dX2_put_23 : decode cX2_put 23 = .ok (.ireturn, 1) := by decide +kernel
theorem dX2_put_24 : decode cX2_put 24 = .ok (.aload 5, 2) := by decide +kernel
theorem dX2_put_26 : decode cX2_put 26 = .ok (.iload_n 2, 1) := by decide +kernel
theorem dX2_put_27 : decode cX2_put 27 = .ok (.invokevirtual 61, 3) := by decide +kernel
theorem dX2_put_30 : decode cX2_put 30 = .ok (.ifCond .eq 12, 3) := by decide +kernel
theorem dX2_put_33 : decode cX2_put 33 = .ok (.aload 5, 2) := by decide +kernel
theorem dX2_put_35 : decode cX2_put 35 = .ok (.iload_n 3, 1) := by decide +kernel
theorem dX2_put_36 : decode cX2_put 36 = .ok (.invokevirtual 61, 3) := by decide +kernel
theorem dX2_put_39 : decode cX2_put 39 = .ok (.ifCond .ne 6, 3) := by decide +kernel
theorem dX2_put_42 : decode cX2_put 42 = .ok (.bipush (-2), 2) := by decide +kernel
theorem dX2_put_44 : decode cX2_put 44 = .ok (.ireturn, 1) := by decide +kernel
theorem dX2_put_45 : decode cX2_put 45 = .ok (.aload 5, 2) := by decide +kernel
theorem dX2_put_47 : decode cX2_put 47 = .ok (.iload_n 2, 1) := by decide +kernel
theorem dX2_put_48 : decode cX2_put 48 = .ok (.iload_n 3, 1) := by decide +kernel
theorem dX2_put_49 : decode cX2_put 49 = .ok (.invokevirtual 64, 3) := by decide +kernel
theorem dX2_put_52 : decode cX2_put 52 = .ok (.istore 6, 2) := by decide +kernel
theorem dX2_put_54 : decode cX2_put 54 = .ok (.aload 5, 2) := by decide +kernel
theorem dX2_put_56 : decode cX2_put 56 = .ok (.iload_n 2, 1) := by decide +kernel
theorem dX2_put_57 : decode cX2_put 57 = .ok (.iload_n 3, 1) := by decide +kernel
theorem dX2_put_58 : decode cX2_put 58 = .ok (.iload 4, 2) := by decide +kernel
theorem dX2_put_60 : decode cX2_put 60 = .ok (.invokevirtual 67, 3) := by decide +kernel
theorem dX2_put_63 : decode cX2_put 63 = .ok (.iload 6, 2) := by decide +kernel
theorem dX2_put_65 : decode cX2_put 65 = .ok (.ireturn, 1) := by decide +kernel
set_option maxRecDepth 20000 in
theorem ggX2_field_X2_worldIn : GoodIn wsX2_field wsX2_worldIn := goodIn_r _ [6, 7, 46, 47, 48, 49, 50, 51, 52] (by decide +kernel) (by decide +kernel)
set_option maxRecDepth 20000 in
theorem gX2_field_X2_worldIn : GoodIn wsX2_field (wsV RX2 38 RX2 yX2_worldIn wsX2_worldIn) := goodIn_app (goodIn_of _ (by decide +kernel)) ggX2_field_X2_worldIn
set_option maxRecDepth 20000 in
theorem ggX2_field_X2_isSomeN : GoodIn wsX2_field wsX2_isSomeN := goodIn_r _ [10] (by decide +kernel) (by decide +kernel)
set_option maxRecDepth 20000 in
theorem gX2_field_X2_isSomeN : GoodIn wsX2_field (va_wsS RX2 42 yX2_isSomeN wsX2_isSomeN) := goodIn_app (goodIn_of _ (by decide +kernel)) ggX2_field_X2_isSomeN
set_option maxRecDepth 20000 in
theorem ggX2_field_X2_cellIndex : GoodIn wsX2_field wsX2_cellIndex := goodIn_r _ [13] (by decide +kernel) (by decide +kernel)
set_option maxRecDepth 20000 in
theorem gX2_field_X2_cellIndex : GoodIn wsX2_field (va_wsS RX2 46 yX2_cellIndex wsX2_cellIndex) := goodIn_app (goodIn_of _ (by decide +kernel)) ggX2_field_X2_cellIndex
set_option maxRecDepth 20000 in
theorem ggX2_field_X2_reduced : GoodIn wsX2_field wsX2_reduced := goodIn_r _ [16, 17] (by decide +kernel) (by decide +kernel)
set_option maxRecDepth 20000 in
theorem gX2_field_X2_reduced : GoodIn wsX2_field (va_wsS RX2 71 yX2_reduced wsX2_reduced) := goodIn_app (goodIn_of _ (by decide +kernel)) ggX2_field_X2_reduced
set_option maxRecDepth 20000 in
theorem ggX2_field_X1_take : GoodIn wsX2_field wsX1_take := goodIn_r _ [22, 23, 24, 25, 26, 27, 28, 21, 29, 30, 31, 32, 33, 34, 35, 36, 37, 38, 39, 40, 41, 12, 5, 13, 53, 54, 55, 56] (by decide +kernel) (by decide +kernel)
set_option maxRecDepth 20000 in
theorem gX2_field_X1_take : GoodIn wsX2_field (wsV RX2 50 RX1 yX1_take wsX1_take) := goodIn_app (goodIn_of _ (by decide +kernel)) ggX2_field_X1_take
set_option maxRecDepth 20000 in
theorem ggX2_field_X1_size : GoodIn wsX2_field wsX1_size := goodIn_r _ [45, 24, 53, 54, 55, 56] (by decide +kernel) (by decide +kernel)
set_option maxRecDepth 20000 in
theorem gX2_field_X1_size : GoodIn wsX2_field (wsV RX2 54 RX1 yX1_size wsX1_size) := goodIn_app (goodIn_of _ (by decide +kernel)) ggX2_field_X1_size
theorem dX2_field_0 : decode cX2_field 0 = .ok (.aload_n 0, 1) := by decide +kernel
theorem dX2_field_1 : decode cX2_field 1 = .ok (.iload_n 1, 1) := by decide +kernel
theorem dX2_field_2 : decode cX2_field 2 = .ok (.invokevirtual 38, 3) := by decide +kernel
theorem dX2_field_5 : decode cX2_field 5 = .ok (.astore_n 3, 1) := by decide +kernel
theorem dX2_field_6 : decode cX2_field 6 = .ok (.aload_n 3, 1) := by decide +kernel
theorem dX2_field_7 : decode cX2_field 7 = .ok (.ifnonnull 5, 3) := by decide +kernel
theorem dX2_field_10 : decode cX2_field 10 = .ok (.iconst (-1), 1) := by decide +kernel
theorem dX2_field_11 : decode cX2_field 11 = .ok (.ireturn, 1) := by decide +kernel
theorem dX2_field_12 : decode cX2_field 12 = .ok (.iload_n 2, 1) := by decide +kernel
theorem dX2_field_13 : decode cX2_field 13 = .ok (.invokestatic 42, 3) := by decide +kernel
theorem dX2_field_16 : decode cX2_field 16 = .ok (.ifCond .ne 6, 3) := by decide +kernel
theorem dX2_field_19 : decode cX2_field 19 = .ok (.bipush (-2), 2) := by decide +kernel
theorem dX2_field_21 : decode cX2_field 21 = .ok (.ireturn, 1) := by decide +kernel
theorem dX2_field_22 : decode cX2_field 22 = .ok (.iconst 0, 1) := by decide +kernel
theorem dX2_field_23 : decode cX2_field 23 = .ok (.istore 4, 2) := by decide +kernel
theorem dX2_field_25 : decode cX2_field 25 = .ok (.iload 4, 2) := by decide +kernel
theorem dX2_field_27 : decode cX2_field 27 = .ok (.iload_n 2, 1) := by decide +kernel
theorem dX2_field_28 : decode cX2_field 28 = .ok (.if_icmp .ge 47, 3) := by decide +kernel
theorem dX2_field_31 : decode cX2_field 31 = .ok (.iconst 0, 1) := by decide +kernel
theorem dX2_field_32 : decode cX2_field 32 = .ok (.istore 5, 2) := by decide +kernel
theorem dX2_field_34 : decode cX2_field 34 = .ok (.iload 5, 2) := by decide +kernel
theorem dX2_field_36 : decode cX2_field 36 = .ok (.iload_n 2, 1) := by decide +kernel
theorem dX2_field_37 : decode cX2_field 37 = .ok (.if_icmp .ge 32, 3) := by decide +kernel
theorem dX2_field_40 : decode cX2_field 40 = .ok (.aload_n 0, 1) := by decide +kernel
theorem dX2_field_41 : decode cX2_field 41 = .ok (.getfield 25, 3) := by decide +kernel
theorem dX2_field_44 : decode cX2_field 44 = .ok (.iload 4, 2) := by decide +kernel
theorem dX2_field_46 : decode cX2_field 46 = .ok (.iload 5, 2) := by decide +kernel
theorem dX2_field_48 : decode cX2_field 48 = .ok (.invokestatic 46, 3) := by decide +kernel
theorem dX2_field_51 : decode cX2_field 51 = .ok (.iconst 1, 1) := by decide +kernel
theorem dX2_field_52 : decode cX2_field 52 = .ok (.iload 4, 2) := by decide +kernel
theorem dX2_field_54 : decode cX2_field 54 = .ok (.iload 5, 2) := by decide +kernel
theorem dX2_field_56 : decode cX2_field 56 = .ok (.iadd, 1) := by decide +kernel
theorem dX2_field_57 : decode cX2_field 57 = .ok (.ishl, 1) := by decide +kernel
theorem dX2_field_58 : decode cX2_field 58 = .ok (.iload_n 2, 1) := by decide +kernel
theorem dX2_field_59 : decode cX2_field 59 = .ok (.invokestatic 71, 3) := by decide +kernel
theorem dX2_field_62 : decode cX2_field 62 = .ok (.iastore, 1) := by decide +kernel
theorem dX2_field_63 : decode cX2_field 63 = .ok (.iinc 5 1, 3) := by decide +kernel
theorem dX2_field_66 : decode cX2_field 66 = .ok (.goto (-32), 3) := by decide +kernel
theorem dX2_field_69 : decode cX2_field 69 = .ok (.iinc 4 1, 3) := by decide +kernel
theorem dX2_field_72 : decode cX2_field 72 = .ok (.goto (-47), 3) := by decide +kernel
theorem dX2_field_75 : decode cX2_field 75 = .ok (.aload_n 3, 1) := by decide +kernel
theorem dX2_field_76 : decode cX2_field 76 = .ok (.iload_n 2, 1) := by decide +kernel
theorem dX2_field_77 : decode cX2_field 77 = .ok (.aload_n 0, 1) := by decide +kernel
theorem dX2_field_78 : decode cX2_field 78 = .ok (.getfield 25, 3) := by decide +kernel
theorem dX2_field_81 : decode cX2_field 81 = .ok (.invokevirtual 50, 3) := by decide +kernel
theorem dX2_field_84 : decode cX2_field 84 = .ok (.aload_n 3, 1) := by decide +kernel
theorem dX2_field_85 : decode cX2_field 85 = .ok (.invokevirtual 54, 3) := by decide +kernel
theorem dX2_field_88 : decode cX2_field 88 = .ok (.ireturn, 1) := by decide +kernel
set_option maxRecDepth 20000 in
theorem ggX2_product_X2_worldIn : GoodIn wsX2_product wsX2_worldIn := goodIn_r _ [5, 6, 21, 22, 23, 24, 25, 26, 27] (by decide +kernel) (by decide +kernel)
set_option maxRecDepth 20000 in
theorem gX2_product_X2_worldIn : GoodIn wsX2_product (wsV RX2 38 RX2 yX2_worldIn wsX2_worldIn) := goodIn_app (goodIn_of _ (by decide +kernel)) ggX2_product_X2_worldIn
set_option maxRecDepth 20000 in
theorem ggX2_product_X1_has : GoodIn wsX2_product wsX1_has := goodIn_r _ [11, 12, 28, 29, 30, 31] (by decide +kernel) (by decide +kernel)
set_option maxRecDepth 20000 in
theorem gX2_product_X1_has : GoodIn wsX2_product (wsV RX2 58 RX1 yX1_has wsX1_has) := goodIn_app (goodIn_of _ (by decide +kernel)) ggX2_product_X1_has
set_option maxRecDepth 20000 in
theorem ggX2_product_X1_times : GoodIn wsX2_product wsX1_times := goodIn_r _ [16, 17, 18, 19, 10, 20, 28, 29, 30, 31] (by decide +kernel) (by decide +kernel)
set_option maxRecDepth 20000 in
theorem gX2_product_X1_times : GoodIn wsX2_product (wsV RX2 74 RX1 yX1_times wsX1_times) := goodIn_app (goodIn_of _ (by decide +kernel)) ggX2_product_X1_times
theorem dX2_product_0 : decode cX2_product 0 = .ok (.aload_n 0, 1) := by decide +kernel
theorem dX2_product_1 : decode cX2_product 1 = .ok (.iload_n 1, 1) := by decide +kernel
theorem dX2_product_2 : decode cX2_product 2 = .ok (.invokevirtual 38, 3) := by decide +kernel
theorem dX2_product_5 : decode cX2_product 5 = .ok (.astore 4, 2) := by decide +kernel
theorem dX2_product_7 : decode cX2_product 7 = .ok (.aload 4, 2) := by decide +kernel
theorem dX2_product_9 : decode cX2_product 9 = .ok (.ifnull 21, 3) := by decide +kernel
theorem dX2_product_12 : decode cX2_product 12 = .ok (.aload 4, 2) := by decide +kernel
theorem dX2_product_14 : decode cX2_product 14 = .ok (.iload_n 2, 1) := by decide +kernel
theorem dX2_product_15 : decode cX2_product 15 = .ok (.invokevirtual 58, 3) := by decide +kernel
theorem dX2_product_18 : decode cX2_product 18 = .ok (.ifCond .eq 12, 3) := by decide +kernel
theorem dX2_product_21 : decode cX2_product 21 = .ok (.aload 4, 2) := by decide +kernel
theorem dX2_product_23 : decode cX2_product 23 = .ok (.iload_n 3, 1) := by decide +kernel
theorem dX2_product_24 : decode cX2_product 24 = .ok (.invokevirtual 58, 3) := by decide +kernel
theorem dX2_product_27 : decode cX2_product 27 = .ok (.ifCond .ne 5, 3) := by decide +kernel
theorem dX2_product_30 : decode cX2_product 30 = .ok (.iconst (-1), 1) := by decide +kernel
theorem dX2_product_31 : decode cX2_product 31 = .ok (.ireturn, 1) := by decide +kernel
theorem dX2_product_32 : decode cX2_product 32 = .ok (.aload 4, 2) := by decide +kernel
theorem dX2_product_34 : decode cX2_product 34 = .ok (.iload_n 2, 1) := by decide +kernel
theorem dX2_product_35 : decode cX2_product 35 = .ok (.iload_n 3, 1) := by decide +kernel
theorem dX2_product_36 : decode cX2_product 36 = .ok (.invokevirtual 74, 3) := by decide +kernel
theorem dX2_product_39 : decode cX2_product 39 = .ok (.ireturn, 1) := by decide +kernel
set_option maxRecDepth 20000 in
theorem ggX2_divides_X2_worldIn : GoodIn wsX2_divides wsX2_worldIn := goodIn_r _ [5, 6, 32, 33, 34, 35, 36, 37, 38] (by decide +kernel) (by decide +kernel)
set_option maxRecDepth 20000 in
theorem gX2_divides_X2_worldIn : GoodIn wsX2_divides (wsV RX2 38 RX2 yX2_worldIn wsX2_worldIn) := goodIn_app (goodIn_of _ (by decide +kernel)) ggX2_divides_X2_worldIn
set_option maxRecDepth 20000 in
theorem ggX2_divides_X1_isWhole : GoodIn wsX2_divides wsX1_isWhole := goodIn_r _ [11, 12, 13, 14, 10, 15, 16, 17, 18, 19, 20, 21, 22, 23, 24, 25, 26, 27, 28, 39, 40, 41, 42] (by decide +kernel) (by decide +kernel)
set_option maxRecDepth 20000 in
theorem gX2_divides_X1_isWhole : GoodIn wsX2_divides (wsV RX2 77 RX1 yX1_isWhole wsX1_isWhole) := goodIn_app (goodIn_of _ (by decide +kernel)) ggX2_divides_X1_isWhole
set_option maxRecDepth 20000 in
theorem ggX2_divides_X2_oneIf : GoodIn wsX2_divides wsX2_oneIf := goodIn_r _ [31] (by decide +kernel) (by decide +kernel)
set_option maxRecDepth 20000 in
theorem gX2_divides_X2_oneIf : GoodIn wsX2_divides (va_wsS RX2 81 yX2_oneIf wsX2_oneIf) := goodIn_app (goodIn_of _ (by decide +kernel)) ggX2_divides_X2_oneIf
theorem dX2_divides_0 : decode cX2_divides 0 = .ok (.aload_n 0, 1) := by decide +kernel
theorem dX2_divides_1 : decode cX2_divides 1 = .ok (.iload_n 1, 1) := by decide +kernel
theorem dX2_divides_2 : decode cX2_divides 2 = .ok (.invokevirtual 38, 3) := by decide +kernel
theorem dX2_divides_5 : decode cX2_divides 5 = .ok (.astore_n 2, 1) := by decide +kernel
theorem dX2_divides_6 : decode cX2_divides 6 = .ok (.aload_n 2, 1) := by decide +kernel
theorem dX2_divides_7 : decode cX2_divides 7 = .ok (.ifnonnull 5, 3) := by decide +kernel
theorem dX2_divides_10 : decode cX2_divides 10 = .ok (.iconst (-1), 1) := by decide +kernel
theorem dX2_divides_11 : decode cX2_divides 11 = .ok (.ireturn, 1) := by decide +kernel
theorem dX2_divides_12 : decode cX2_divides 12 = .ok (.aload_n 2, 1) := by decide +kernel
theorem dX2_divides_13 : decode cX2_divides 13 = .ok (.invokevirtual 77, 3) := by decide +kernel
theorem dX2_divides_16 : decode cX2_divides 16 = .ok (.invokestatic 81, 3) := by decide +kernel
theorem dX2_divides_19 : decode cX2_divides 19 = .ok (.ireturn, 1) := by decide +kernel
set_option maxRecDepth 20000 in
theorem ggX2_broken_X2_worldIn : GoodIn wsX2_broken wsX2_worldIn := goodIn_r _ [5, 6, 26, 27, 28, 29, 30, 31, 32] (by decide +kernel) (by decide +kernel)
set_option maxRecDepth 20000 in
theorem gX2_broken_X2_worldIn : GoodIn wsX2_broken (wsV RX2 38 RX2 yX2_worldIn wsX2_worldIn) := goodIn_app (goodIn_of _ (by decide +kernel)) ggX2_broken_X2_worldIn
set_option maxRecDepth 20000 in
theorem ggX2_broken_X1_leastBroken : GoodIn wsX2_broken wsX1_leastBroken := goodIn_r _ [11, 12, 13, 14, 15, 10, 16, 17, 18, 19, 20, 21, 22, 23, 24, 33, 34, 35, 36] (by decide +kernel) (by decide +kernel)
set_option maxRecDepth 20000 in
theorem gX2_broken_X1_leastBroken : GoodIn wsX2_broken (wsV RX2 85 RX1 yX1_leastBroken wsX1_leastBroken) := goodIn_app (goodIn_of _ (by decide +kernel)) ggX2_broken_X1_leastBroken
set_option maxRecDepth 20000 in
theorem ggX2_broken_X1_leastPartner : GoodIn wsX2_broken wsX1_leastPartner := goodIn_r _ [16, 12, 17, 18, 19, 10, 20, 21, 22, 23, 24, 33, 34, 35, 36] (by decide +kernel) (by decide +kernel)
set_option maxRecDepth 20000 in
theorem gX2_broken_X1_leastPartner : GoodIn wsX2_broken (wsV RX2 88 RX1 yX1_leastPartner wsX1_leastPartner) := goodIn_app (goodIn_of _ (by decide +kernel)) ggX2_broken_X1_leastPartner
theorem dX2_broken_0 : decode cX2_broken 0 = .ok (.aload_n 0, 1) := by decide +kernel
theorem dX2_broken_1 : decode cX2_broken 1 = .ok (.iload_n 1, 1) := by decide +kernel
theorem dX2_broken_2 : decode cX2_broken 2 = .ok (.invokevirtual 38, 3) := by decide +kernel
theorem dX2_broken_5 : decode cX2_broken 5 = .ok (.astore_n 3, 1) := by decide +kernel
theorem dX2_broken_6 : decode cX2_broken 6 = .ok (.aload_n 3, 1) := by decide +kernel
theorem dX2_broken_7 : decode cX2_broken 7 = .ok (.ifnonnull 5, 3) := by decide +kernel
theorem dX2_broken_10 : decode cX2_broken 10 = .ok (.iconst (-1), 1) := by decide +kernel
theorem dX2_broken_11 : decode cX2_broken 11 = .ok (.ireturn, 1) := by decide +kernel
theorem dX2_broken_12 : decode cX2_broken 12 = .ok (.aload_n 3, 1) := by decide +kernel
theorem dX2_broken_13 : decode cX2_broken 13 = .ok (.invokevirtual 85, 3) := by decide +kernel
theorem dX2_broken_16 : decode cX2_broken 16 = .ok (.istore 4, 2) := by decide +kernel
theorem dX2_broken_18 : decode cX2_broken 18 = .ok (.iload_n 2, 1) := by decide +kernel
theorem dX2_broken_19 : decode cX2_broken 19 = .ok (.ifCond .eq 19, 3) := by decide +kernel
theorem dX2_broken_22 : decode cX2_broken 22 = .ok (.iload 4, 2) := by decide +kernel
theorem dX2_broken_24 : decode cX2_broken 24 = .ok (.bipush (-9), 2) := by decide +kernel
theorem dX2_broken_26 : decode cX2_broken 26 = .ok (.if_icmp .eq 12, 3) := by decide +kernel
theorem dX2_broken_29 : decode cX2_broken 29 = .ok (.aload_n 3, 1) := by decide +kernel
theorem dX2_broken_30 : decode cX2_broken 30 = .ok (.iload 4, 2) := by decide +kernel
theorem dX2_broken_32 : decode cX2_broken 32 = .ok (.invokevirtual 88, 3) := by decide +kernel
theorem dX2_broken_35 : decode cX2_broken 35 = .ok (.goto 5, 3) := by decide +kernel
theorem dX2_broken_38 : decode cX2_broken 38 = .ok (.iload 4, 2) := by decide +kernel
theorem dX2_broken_40 : decode cX2_broken 40 = .ok (.ireturn, 1) := by decide +kernel
set_option maxRecDepth 20000 in
theorem ggX2_one_X2_worldIn : GoodIn wsX2_one wsX2_worldIn := goodIn_r _ [5, 6, 25, 26, 27, 28, 29, 30, 31] (by decide +kernel) (by decide +kernel)
set_option maxRecDepth 20000 in
theorem gX2_one_X2_worldIn : GoodIn wsX2_one (wsV RX2 38 RX2 yX2_worldIn wsX2_worldIn) := goodIn_app (goodIn_of _ (by decide +kernel)) ggX2_one_X2_worldIn
set_option maxRecDepth 20000 in
theorem ggX2_one_X1_unit : GoodIn wsX2_one wsX1_unit := goodIn_r _ [11, 12, 13, 14, 15, 10, 16, 17, 18, 19, 20, 21, 22, 23, 24, 32, 33, 34, 35] (by decide +kernel) (by decide +kernel)
set_option maxRecDepth 20000 in
theorem gX2_one_X1_unit : GoodIn wsX2_one (wsV RX2 92 RX1 yX1_unit wsX1_unit) := goodIn_app (goodIn_of _ (by decide +kernel)) ggX2_one_X1_unit
theorem dX2_one_0 : decode cX2_one 0 = .ok (.aload_n 0, 1) := by decide +kernel
theorem dX2_one_1 : decode cX2_one 1 = .ok (.iload_n 1, 1) := by decide +kernel
theorem dX2_one_2 : decode cX2_one 2 = .ok (.invokevirtual 38, 3) := by decide +kernel
theorem dX2_one_5 : decode cX2_one 5 = .ok (.astore_n 2, 1) := by decide +kernel
theorem dX2_one_6 : decode cX2_one 6 = .ok (.aload_n 2, 1) := by decide +kernel
theorem dX2_one_7 : decode cX2_one 7 = .ok (.ifnonnull 5, 3) := by decide +kernel
theorem dX2_one_10 : decode cX2_one 10 = .ok (.iconst (-1), 1) := by decide +kernel
theorem dX2_one_11 : decode cX2_one 11 = .ok (.ireturn, 1) := by decide +kernel
theorem dX2_one_12 : decode cX2_one 12 = .ok (.aload_n 2, 1) := by decide +kernel
theorem dX2_one_13 : decode cX2_one 13 = .ok (.invokevirtual 92, 3) := by decide +kernel
theorem dX2_one_16 : decode cX2_one 16 = .ok (.ireturn, 1) := by decide +kernel
set_option maxRecDepth 20000 in
theorem ggX2_quotient_X2_worldIn : GoodIn wsX2_quotient wsX2_worldIn := goodIn_r _ [5, 6, 25, 26, 27, 28, 29, 30, 31] (by decide +kernel) (by decide +kernel)
set_option maxRecDepth 20000 in
theorem gX2_quotient_X2_worldIn : GoodIn wsX2_quotient (wsV RX2 38 RX2 yX2_worldIn wsX2_worldIn) := goodIn_app (goodIn_of _ (by decide +kernel)) ggX2_quotient_X2_worldIn
set_option maxRecDepth 20000 in
theorem ggX2_quotient_X1_has : GoodIn wsX2_quotient wsX1_has := goodIn_r _ [11, 12, 32, 33, 34, 35] (by decide +kernel) (by decide +kernel)
set_option maxRecDepth 20000 in
theorem gX2_quotient_X1_has : GoodIn wsX2_quotient (wsV RX2 58 RX1 yX1_has wsX1_has) := goodIn_app (goodIn_of _ (by decide +kernel)) ggX2_quotient_X1_has
set_option maxRecDepth 20000 in
theorem ggX2_quotient_X1_solve : GoodIn wsX2_quotient wsX1_solve := goodIn_r _ [16, 12, 17, 18, 19, 10, 20, 21, 22, 23, 24, 32, 33, 34, 35] (by decide +kernel) (by decide +kernel)
set_option maxRecDepth 20000 in
theorem gX2_quotient_X1_solve : GoodIn wsX2_quotient (wsV RX2 95 RX1 yX1_solve wsX1_solve) := goodIn_app (goodIn_of _ (by decide +kernel)) ggX2_quotient_X1_solve
theorem dX2_quotient_0 : decode cX2_quotient 0 = .ok (.aload_n 0, 1) := by decide +kernel
theorem dX2_quotient_1 : decode cX2_quotient 1 = .ok (.iload_n 1, 1) := by decide +kernel
theorem dX2_quotient_2 : decode cX2_quotient 2 = .ok (.invokevirtual 38, 3) := by decide +kernel
theorem dX2_quotient_5 : decode cX2_quotient 5 = .ok (.astore 5, 2) := by decide +kernel
theorem dX2_quotient_7 : decode cX2_quotient 7 = .ok (.aload 5, 2) := by decide +kernel
theorem dX2_quotient_9 : decode cX2_quotient 9 = .ok (.ifnull 21, 3) := by decide +kernel
theorem dX2_quotient_12 : decode cX2_quotient 12 = .ok (.aload 5, 2) := by decide +kernel
theorem dX2_quotient_14 : decode cX2_quotient 14 = .ok (.iload_n 2, 1) := by decide +kernel
theorem dX2_quotient_15 : decode cX2_quotient 15 = .ok (.invokevirtual 58, 3) := by decide +kernel
theorem dX2_quotient_18 : decode cX2_quotient 18 = .ok (.ifCond .eq 12, 3) := by decide +kernel
theorem dX2_quotient_21 : decode cX2_quotient 21 = .ok (.aload 5, 2) := by decide +kernel
theorem dX2_quotient_23 : decode cX2_quotient 23 = .ok (.iload_n 3, 1) := by decide +kernel
theorem dX2_quotient_24 : decode cX2_quotient 24 = .ok (.invokevirtual 58, 3) := by decide +kernel
theorem dX2_quotient_27 : decode cX2_quotient 27 = .ok (.ifCond .ne 5, 3) := by decide +kernel
theorem dX2_quotient_30 : decode cX2_quotient 30 = .ok (.iconst (-1), 1) := by decide +kernel
theorem dX2_quotient_31 : decode cX2_quotient 31 = .ok (.ireturn, 1) := by decide +kernel
theorem dX2_quotient_32 : decode cX2_quotient 32 = .ok (.aload 5, 2) := by decide +kernel
theorem dX2_quotient_34 : decode cX2_quotient 34 = .ok (.iload_n 2, 1) := by decide +kernel
theorem dX2_quotient_35 : decode cX2_quotient 35 = .ok (.iload_n 3, 1) := by decide +kernel
theorem dX2_quotient_36 : decode cX2_quotient 36 = .ok (.iload 4, 2) := by decide +kernel
theorem dX2_quotient_38 : decode cX2_quotient 38 = .ok (.invokevirtual 95, 3) := by decide +kernel
theorem dX2_quotient_41 : decode cX2_quotient 41 = .ok (.ireturn, 1) := by decide +kernel
set_option maxRecDepth 20000 in
theorem ggX2_turn_X2_worldIn : GoodIn wsX2_turn wsX2_worldIn := goodIn_r _ [6, 7, 49, 50, 51, 52, 53, 54, 55] (by decide +kernel) (by decide +kernel)
set_option maxRecDepth 20000 in
theorem gX2_turn_X2_worldIn : GoodIn wsX2_turn (wsV RX2 38 RX2 yX2_worldIn wsX2_worldIn) := goodIn_app (goodIn_of _ (by decide +kernel)) ggX2_turn_X2_worldIn
set_option maxRecDepth 20000 in
theorem ggX2_turn_X1_bits : GoodIn wsX2_turn wsX1_bits := goodIn_r _ [12, 13, 56, 57, 58, 59] (by decide +kernel) (by decide +kernel)
set_option maxRecDepth 20000 in
theorem gX2_turn_X1_bits : GoodIn wsX2_turn (wsV RX2 99 RX1 yX1_bits wsX1_bits) := goodIn_app (goodIn_of _ (by decide +kernel)) ggX2_turn_X1_bits
set_option maxRecDepth 20000 in
theorem ggX2_turn_X2_cellIndex : GoodIn wsX2_turn wsX2_cellIndex := goodIn_r _ [16] (by decide +kernel) (by decide +kernel)
set_option maxRecDepth 20000 in
theorem gX2_turn_X2_cellIndex : GoodIn wsX2_turn (va_wsS RX2 46 yX2_cellIndex wsX2_cellIndex) := goodIn_app (goodIn_of _ (by decide +kernel)) ggX2_turn_X2_cellIndex
set_option maxRecDepth 20000 in
theorem ggX2_turn_X2_turnedCell : GoodIn wsX2_turn wsX2_turnedCell := goodIn_r _ [19, 8, 9, 10, 11, 12, 13, 20, 21, 5, 22, 23, 24, 25, 26, 27, 28, 29, 30, 31, 15, 16, 56, 57, 58, 59] (by decide +kernel) (by decide +kernel)
set_option maxRecDepth 20000 in
theorem gX2_turn_X2_turnedCell : GoodIn wsX2_turn (va_wsS RX2 102 yX2_turnedCell wsX2_turnedCell) := goodIn_app (goodIn_of _ (by decide +kernel)) ggX2_turn_X2_turnedCell
set_option maxRecDepth 20000 in
theorem ggX2_turn_X1_take : GoodIn wsX2_turn wsX1_take := goodIn_r _ [35, 13, 36, 31, 37, 38, 39, 11, 40, 41, 42, 43, 44, 45, 46, 47, 48, 27, 28, 29, 30, 15, 5, 16, 56, 57, 58, 59] (by decide +kernel) (by decide +kernel)
set_option maxRecDepth 20000 in
theorem gX2_turn_X1_take : GoodIn wsX2_turn (wsV RX2 50 RX1 yX1_take wsX1_take) := goodIn_app (goodIn_of _ (by decide +kernel)) ggX2_turn_X1_take
theorem dX2_turn_0 : decode cX2_turn 0 = .ok (.aload_n 0, 1) := by decide +kernel
theorem dX2_turn_1 : decode cX2_turn 1 = .ok (.iload_n 1, 1) := by decide +kernel
theorem dX2_turn_2 : decode cX2_turn 2 = .ok (.invokevirtual 38, 3) := by decide +kernel
theorem dX2_turn_5 : decode cX2_turn 5 = .ok (.astore 4, 2) := by decide +kernel
theorem dX2_turn_7 : decode cX2_turn 7 = .ok (.aload_n 0, 1) := by decide +kernel
theorem dX2_turn_8 : decode cX2_turn 8 = .ok (.iload_n 2, 1) := by decide +kernel
theorem dX2_turn_9 : decode cX2_turn 9 = .ok (.invokevirtual 38, 3) := by decide +kernel
theorem dX2_turn_12 : decode cX2_turn 12 = .ok (.astore 5, 2) := by decide +kernel
theorem dX2_turn_14 : decode cX2_turn 14 = .ok (.aload 4, 2) := by decide +kernel
theorem dX2_turn_16 : decode cX2_turn 16 = .ok (.ifnull 8, 3) := by decide +kernel
theorem dX2_turn_19 : decode cX2_turn 19 = .ok (.aload 5, 2) := by decide +kernel
theorem dX2_turn_21 : decode cX2_turn 21 = .ok (.ifnonnull 5, 3) := by decide +kernel
theorem dX2_turn_24 : decode cX2_turn 24 = .ok (.iconst (-1), 1) := by decide +kernel
theorem dX2_turn_25 : decode cX2_turn 25 = .ok (.ireturn, 1) := by decide +kernel
theorem dX2_turn_26 : decode cX2_turn 26 = .ok (.iload_n 3, 1) := by decide +kernel
theorem dX2_turn_27 : decode cX2_turn 27 = .ok (.ifCond .lt 9, 3) := by decide +kernel
theorem dX2_turn_30 : decode cX2_turn 30 = .ok (.iload_n 3, 1) := by decide +kernel
theorem dX2_turn_31 : decode cX2_turn 31 = .ok (.bipush 6, 2) := by decide +kernel
theorem dX2_turn_33 : decode cX2_turn 33 = .ok (.if_icmp .lt 6, 3) := by decide +kernel
theorem dX2_turn_36 : decode cX2_turn 36 = .ok (.bipush (-2), 2) := by decide +kernel
theorem dX2_turn_38 : decode cX2_turn 38 = .ok (.ireturn, 1) := by decide +kernel
theorem dX2_turn_39 : decode cX2_turn 39 = .ok (.aload 5, 2) := by decide +kernel
theorem dX2_turn_41 : decode cX2_turn 41 = .ok (.invokevirtual 99, 3) := by decide +kernel
theorem dX2_turn_44 : decode cX2_turn 44 = .ok (.istore 6, 2) := by decide +kernel
theorem dX2_turn_46 : decode cX2_turn 46 = .ok (.iconst 0, 1) := by decide +kernel
theorem dX2_turn_47 : decode cX2_turn 47 = .ok (.istore 7, 2) := by decide +kernel
theorem dX2_turn_49 : decode cX2_turn 49 = .ok (.iload 7, 2) := by decide +kernel
theorem dX2_turn_51 : decode cX2_turn 51 = .ok (.iload 6, 2) := by decide +kernel
theorem dX2_turn_53 : decode cX2_turn 53 = .ok (.if_icmp .ge 47, 3) := by decide +kernel
theorem dX2_turn_56 : decode cX2_turn 56 = .ok (.iconst 0, 1) := by decide +kernel
theorem dX2_turn_57 : decode cX2_turn 57 = .ok (.istore 8, 2) := by decide +kernel
theorem dX2_turn_59 : decode cX2_turn 59 = .ok (.iload 8, 2) := by decide +kernel
theorem dX2_turn_61 : decode cX2_turn 61 = .ok (.iload 6, 2) := by decide +kernel
theorem dX2_turn_63 : decode cX2_turn 63 = .ok (.if_icmp .ge 31, 3) := by decide +kernel
theorem dX2_turn_66 : decode cX2_turn 66 = .ok (.aload_n 0, 1) := by decide +kernel
theorem dX2_turn_67 : decode cX2_turn 67 = .ok (.getfield 25, 3) := by decide +kernel
theorem dX2_turn_70 : decode cX2_turn 70 = .ok (.iload 7, 2) := by decide +kernel
theorem dX2_turn_72 : decode cX2_turn 72 = .ok (.iload 8, 2) := by decide +kernel
theorem dX2_turn_74 : decode cX2_turn 74 = .ok (.invokestatic 46, 3) := by decide +kernel
theorem dX2_turn_77 : decode cX2_turn 77 = .ok (.aload 5, 2) := by decide +kernel
theorem dX2_turn_79 : decode cX2_turn 79 = .ok (.iload 7, 2) := by decide +kernel
theorem dX2_turn_81 : decode cX2_turn 81 = .ok (.iload 8, 2) := by decide +kernel
theorem dX2_turn_83 : decode cX2_turn 83 = .ok (.iload_n 3, 1) := by decide +kernel
theorem dX2_turn_84 : decode cX2_turn 84 = .ok (.invokestatic 102, 3) := by decide +kernel
theorem dX2_turn_87 : decode cX2_turn 87 = .ok (.iastore, 1) := by decide +kernel
theorem dX2_turn_88 : decode cX2_turn 88 = .ok (.iinc 8 1, 3) := by decide +kernel
theorem dX2_turn_91 : decode cX2_turn 91 = .ok (.goto (-32), 3) := by decide +kernel
theorem dX2_turn_94 : decode cX2_turn 94 = .ok (.iinc 7 1, 3) := by decide +kernel
theorem dX2_turn_97 : decode cX2_turn 97 = .ok (.goto (-48), 3) := by decide +kernel
theorem dX2_turn_100 : decode cX2_turn 100 = .ok (.aload 4, 2) := by decide +kernel
theorem dX2_turn_102 : decode cX2_turn 102 = .ok (.iload 6, 2) := by decide +kernel
theorem dX2_turn_104 : decode cX2_turn 104 = .ok (.aload_n 0, 1) := by decide +kernel
theorem dX2_turn_105 : decode cX2_turn 105 = .ok (.getfield 25, 3) := by decide +kernel
theorem dX2_turn_108 : decode cX2_turn 108 = .ok (.invokevirtual 50, 3) := by decide +kernel
theorem dX2_turn_111 : decode cX2_turn 111 = .ok (.iconst 1, 1) := by decide +kernel
theorem dX2_turn_112 : decode cX2_turn 112 = .ok (.ireturn, 1) := by decide +kernel
set_option maxRecDepth 20000 in
theorem ggX2_joins_X2_worldIn : GoodIn wsX2_joins wsX2_worldIn := goodIn_r _ [5, 6, 48, 49, 50, 51, 52, 53, 54] (by decide +kernel) (by decide +kernel)
set_option maxRecDepth 20000 in
theorem gX2_joins_X2_worldIn : GoodIn wsX2_joins (wsV RX2 38 RX2 yX2_worldIn wsX2_worldIn) := goodIn_app (goodIn_of _ (by decide +kernel)) ggX2_joins_X2_worldIn
set_option maxRecDepth 20000 in
theorem ggX2_joins_X1_has : GoodIn wsX2_joins wsX1_has := goodIn_r _ [11, 12, 55, 56, 57, 58] (by decide +kernel) (by decide +kernel)
set_option maxRecDepth 20000 in
theorem gX2_joins_X1_has : GoodIn wsX2_joins (wsV RX2 58 RX1 yX1_has wsX1_has) := goodIn_app (goodIn_of _ (by decide +kernel)) ggX2_joins_X1_has
set_option maxRecDepth 20000 in
theorem ggX2_joins_X2_isSomeWay : GoodIn wsX2_joins wsX2_isSomeWay := goodIn_r _ [15] (by decide +kernel) (by decide +kernel)
set_option maxRecDepth 20000 in
theorem gX2_joins_X2_isSomeWay : GoodIn wsX2_joins (va_wsS RX2 106 yX2_isSomeWay wsX2_isSomeWay) := goodIn_app (goodIn_of _ (by decide +kernel)) ggX2_joins_X2_isSomeWay
set_option maxRecDepth 20000 in
theorem ggX2_joins_X1_joinsIn : GoodIn wsX2_joins wsX1_joinsIn := goodIn_r _ [19, 20, 21, 22, 10, 23, 24, 25, 26, 27, 28, 29, 30, 31, 32, 33, 34, 35, 36, 37, 38, 39, 40, 41, 42, 43, 44, 55, 56, 57, 58] (by decide +kernel) (by decide +kernel)
set_option maxRecDepth 20000 in
theorem gX2_joins_X1_joinsIn : GoodIn wsX2_joins (wsV RX2 109 RX1 yX1_joinsIn wsX1_joinsIn) := goodIn_app (goodIn_of _ (by decide +kernel)) ggX2_joins_X1_joinsIn
set_option maxRecDepth 20000 in
theorem ggX2_joins_X2_oneIf : GoodIn wsX2_joins wsX2_oneIf := goodIn_r _ [47] (by decide +kernel) (by decide +kernel)
set_option maxRecDepth 20000 in
theorem gX2_joins_X2_oneIf : GoodIn wsX2_joins (va_wsS RX2 81 yX2_oneIf wsX2_oneIf) := goodIn_app (goodIn_of _ (by decide +kernel)) ggX2_joins_X2_oneIf
theorem dX2_joins_0 : decode cX2_joins 0 = .ok (.aload_n 0, 1) := by decide +kernel
theorem dX2_joins_1 : decode cX2_joins 1 = .ok (.iload_n 1, 1) := by decide +kernel
theorem dX2_joins_2 : decode cX2_joins 2 = .ok (.invokevirtual 38, 3) := by decide +kernel
theorem dX2_joins_5 : decode cX2_joins 5 = .ok (.astore 4, 2) := by decide +kernel
theorem dX2_joins_7 : decode cX2_joins 7 = .ok (.aload 4, 2) := by decide +kernel
theorem dX2_joins_9 : decode cX2_joins 9 = .ok (.ifnull 12, 3) := by decide +kernel
theorem dX2_joins_12 : decode cX2_joins 12 = .ok (.aload 4, 2) := by decide +kernel
theorem dX2_joins_14 : decode cX2_joins 14 = .ok (.iload_n 2, 1) := by decide +kernel
theorem dX2_joins_15 : decode cX2_joins 15 = .ok (.invokevirtual 58, 3) := by decide +kernel
theorem dX2_joins_18 : decode cX2_joins 18 = .ok (.ifCond .ne 5, 3) := by decide +kernel
theorem dX2_joins_21 : decode cX2_joins 21 = .ok (.iconst (-1), 1) := by decide +kernel
theorem dX2_joins_22 : decode cX2_joins 22 = .ok (.ireturn, 1) := by decide +kernel
theorem dX2_joins_23 : decode cX2_joins 23 = .ok (.iload_n 3, 1) := by decide +kernel
theorem dX2_joins_24 : decode cX2_joins 24 = .ok (.invokestatic 106, 3) := by decide +kernel
theorem dX2_joins_27 : decode cX2_joins 27 = .ok (.ifCond .ne 6, 3) := by decide +kernel
theorem dX2_joins_30 : decode cX2_joins 30 = .ok (.bipush (-2), 2) := by decide +kernel
theorem dX2_joins_32 : decode cX2_joins 32 = .ok (.ireturn, 1) := by decide +kernel
theorem dX2_joins_33 : decode cX2_joins 33 = .ok (.aload 4, 2) := by decide +kernel
theorem dX2_joins_35 : decode cX2_joins 35 = .ok (.iload_n 2, 1) := by decide +kernel
theorem dX2_joins_36 : decode cX2_joins 36 = .ok (.iload_n 3, 1) := by decide +kernel
theorem dX2_joins_37 : decode cX2_joins 37 = .ok (.invokevirtual 109, 3) := by decide +kernel
theorem dX2_joins_40 : decode cX2_joins 40 = .ok (.invokestatic 81, 3) := by decide +kernel
theorem dX2_joins_43 : decode cX2_joins 43 = .ok (.ireturn, 1) := by decide +kernel
set_option maxRecDepth 20000 in
theorem ggX2_many_X2_worldIn : GoodIn wsX2_many wsX2_worldIn := goodIn_r _ [5, 6, 45, 46, 47, 48, 49, 50, 51] (by decide +kernel) (by decide +kernel)
set_option maxRecDepth 20000 in
theorem gX2_many_X2_worldIn : GoodIn wsX2_many (wsV RX2 38 RX2 yX2_worldIn wsX2_worldIn) := goodIn_app (goodIn_of _ (by decide +kernel)) ggX2_many_X2_worldIn
set_option maxRecDepth 20000 in
theorem ggX2_many_X2_isSomeWay : GoodIn wsX2_many wsX2_isSomeWay := goodIn_r _ [9] (by decide +kernel) (by decide +kernel)
set_option maxRecDepth 20000 in
theorem gX2_many_X2_isSomeWay : GoodIn wsX2_many (va_wsS RX2 106 yX2_isSomeWay wsX2_isSomeWay) := goodIn_app (goodIn_of _ (by decide +kernel)) ggX2_many_X2_isSomeWay
set_option maxRecDepth 20000 in
theorem ggX2_many_X1_size : GoodIn wsX2_many wsX1_size := goodIn_r _ [14, 15, 52, 53, 54, 55] (by decide +kernel) (by decide +kernel)
set_option maxRecDepth 20000 in
theorem gX2_many_X1_size : GoodIn wsX2_many (wsV RX2 54 RX1 yX1_size wsX1_size) := goodIn_app (goodIn_of _ (by decide +kernel)) ggX2_many_X1_size
set_option maxRecDepth 20000 in
theorem ggX2_many_X1_joinsIn : GoodIn wsX2_many wsX1_joinsIn := goodIn_r _ [19, 20, 21, 22, 13, 23, 24, 25, 26, 27, 28, 29, 30, 31, 32, 33, 34, 35, 36, 37, 38, 39, 40, 41, 42, 43, 44, 52, 53, 54, 55] (by decide +kernel) (by decide +kernel)
set_option maxRecDepth 20000 in
theorem gX2_many_X1_joinsIn : GoodIn wsX2_many (wsV RX2 109 RX1 yX1_joinsIn wsX1_joinsIn) := goodIn_app (goodIn_of _ (by decide +kernel)) ggX2_many_X1_joinsIn
theorem dX2_many_0 : decode cX2_many 0 = .ok (.aload_n 0, 1) := by decide +kernel
theorem dX2_many_1 : decode cX2_many 1 = .ok (.iload_n 1, 1) := by decide +kernel
theorem dX2_many_2 : decode cX2_many 2 = .ok (.invokevirtual 38, 3) := by decide +kernel
theorem dX2_many_5 : decode cX2_many 5 = .ok (.astore_n 3, 1) := by decide +kernel
theorem dX2_many_6 : decode cX2_many 6 = .ok (.aload_n 3, 1) := by decide +kernel
theorem dX2_many_7 : decode cX2_many 7 = .ok (.ifnonnull 5, 3) := by decide +kernel
theorem dX2_many_10 : decode cX2_many 10 = .ok (.iconst (-1), 1) := by decide +kernel
theorem dX2_many_11 : decode cX2_many 11 = .ok (.ireturn, 1) := by decide +kernel
theorem dX2_many_12 : decode cX2_many 12 = .ok (.iload_n 2, 1) := by decide +kernel
theorem dX2_many_13 : decode cX2_many 13 = .ok (.invokestatic 106, 3) := by decide +kernel
theorem dX2_many_16 : decode cX2_many 16 = .ok (.ifCond .ne 6, 3) := by decide +kernel
theorem dX2_many_19 : decode cX2_many 19 = .ok (.bipush (-2), 2) := by decide +kernel
theorem dX2_many_21 : decode cX2_many 21 = .ok (.ireturn, 1) := by decide +kernel
theorem dX2_many_22 : decode cX2_many 22 = .ok (.iconst 0, 1) := by decide +kernel
theorem dX2_many_23 : decode cX2_many 23 = .ok (.istore 4, 2) := by decide +kernel
theorem dX2_many_25 : decode cX2_many 25 = .ok (.iconst 0, 1) := by decide +kernel
theorem dX2_many_26 : decode cX2_many 26 = .ok (.istore 5, 2) := by decide +kernel
theorem dX2_many_28 : decode cX2_many 28 = .ok (.iload 5, 2) := by decide +kernel
theorem dX2_many_30 : decode cX2_many 30 = .ok (.aload_n 3, 1) := by decide +kernel
theorem dX2_many_31 : decode cX2_many 31 = .ok (.invokevirtual 54, 3) := by decide +kernel
theorem dX2_many_34 : decode cX2_many 34 = .ok (.if_icmp .ge 22, 3) := by decide +kernel
theorem dX2_many_37 : decode cX2_many 37 = .ok (.aload_n 3, 1) := by decide +kernel
theorem dX2_many_38 : decode cX2_many 38 = .ok (.iload 5, 2) := by decide +kernel
theorem dX2_many_40 : decode cX2_many 40 = .ok (.iload_n 2, 1) := by decide +kernel
theorem dX2_many_41 : decode cX2_many 41 = .ok (.invokevirtual 109, 3) := by decide +kernel
theorem dX2_many_44 : decode cX2_many 44 = .ok (.ifCond .eq 6, 3) := by decide +kernel
theorem dX2_many_47 : decode cX2_many 47 = .ok (.iinc 4 1, 3) := by decide +kernel
theorem dX2_many_50 : decode cX2_many 50 = .ok (.iinc 5 1, 3) := by decide +kernel
theorem dX2_many_53 : decode cX2_many 53 = .ok (.goto (-25), 3) := by decide +kernel
theorem dX2_many_56 : decode cX2_many 56 = .ok (.iload 4, 2) := by decide +kernel
theorem dX2_many_58 : decode cX2_many 58 = .ok (.ireturn, 1) := by decide +kernel
set_option maxRecDepth 20000 in
theorem ggX2_unlike_X2_worldIn : GoodIn wsX2_unlike wsX2_worldIn := goodIn_r _ [5, 6, 21, 22, 23, 24, 25, 26, 27] (by decide +kernel) (by decide +kernel)
set_option maxRecDepth 20000 in
theorem gX2_unlike_X2_worldIn : GoodIn wsX2_unlike (wsV RX2 38 RX2 yX2_worldIn wsX2_worldIn) := goodIn_app (goodIn_of _ (by decide +kernel)) ggX2_unlike_X2_worldIn
set_option maxRecDepth 20000 in
theorem ggX2_unlike_X1_countUnlike : GoodIn wsX2_unlike wsX1_countUnlike := goodIn_r _ [11, 12, 13, 14, 15, 10, 16, 17, 18, 19, 20, 28, 29, 30, 31] (by decide +kernel) (by decide +kernel)
set_option maxRecDepth 20000 in
theorem gX2_unlike_X1_countUnlike : GoodIn wsX2_unlike (wsV RX2 113 RX1 yX1_countUnlike wsX1_countUnlike) := goodIn_app (goodIn_of _ (by decide +kernel)) ggX2_unlike_X1_countUnlike
theorem dX2_unlike_0 : decode cX2_unlike 0 = .ok (.aload_n 0, 1) := by decide +kernel
theorem dX2_unlike_1 : decode cX2_unlike 1 = .ok (.iload_n 1, 1) := by decide +kernel
theorem dX2_unlike_2 : decode cX2_unlike 2 = .ok (.invokevirtual 38, 3) := by decide +kernel
theorem dX2_unlike_5 : decode cX2_unlike 5 = .ok (.astore_n 2, 1) := by decide +kernel
theorem dX2_unlike_6 : decode cX2_unlike 6 = .ok (.aload_n 2, 1) := by decide +kernel
theorem dX2_unlike_7 : decode cX2_unlike 7 = .ok (.ifnonnull 5, 3) := by decide +kernel
theorem dX2_unlike_10 : decode cX2_unlike 10 = .ok (.iconst (-1), 1) := by decide +kernel
theorem dX2_unlike_11 : decode cX2_unlike 11 = .ok (.ireturn, 1) := by decide +kernel
theorem dX2_unlike_12 : decode cX2_unlike 12 = .ok (.aload_n 2, 1) := by decide +kernel
theorem dX2_unlike_13 : decode cX2_unlike 13 = .ok (.invokevirtual 113, 3) := by decide +kernel
theorem dX2_unlike_16 : decode cX2_unlike 16 = .ok (.ireturn, 1) := by decide +kernel
set_option maxRecDepth 20000 in
theorem ggX2_map_X2_mapAt : GoodIn wsX2_map wsX2_mapAt := goodIn_r _ [5, 6, 10, 11, 12, 13, 14, 15, 16] (by decide +kernel) (by decide +kernel)
set_option maxRecDepth 20000 in
theorem gX2_map_X2_mapAt : GoodIn wsX2_map (wsV RX2 116 RX2 yX2_mapAt wsX2_mapAt) := goodIn_app (goodIn_of _ (by decide +kernel)) ggX2_map_X2_mapAt
set_option maxRecDepth 20000 in
theorem ggX2_map_X2_isMapNumber : GoodIn wsX2_map wsX2_isMapNumber := goodIn_r _ [9] (by decide +kernel) (by decide +kernel)
set_option maxRecDepth 20000 in
theorem gX2_map_X2_isMapNumber : GoodIn wsX2_map (va_wsS RX2 120 yX2_isMapNumber wsX2_isMapNumber) := goodIn_app (goodIn_of _ (by decide +kernel)) ggX2_map_X2_isMapNumber
theorem dX2_map_0 : decode cX2_map 0 = .ok (.aload_n 0, 1) := by decide +kernel
theorem dX2_map_1 : decode cX2_map 1 = .ok (.iload_n 1, 1) := by decide +kernel
theorem dX2_map_2 : decode cX2_map 2 = .ok (.invokevirtual 116, 3) := by decide +kernel
theorem dX2_map_5 : decode cX2_map 5 = .ok (.astore 4, 2) := by decide +kernel
theorem dX2_map_7 : decode cX2_map 7 = .ok (.aload 4, 2) := by decide +kernel
theorem dX2_map_9 : decode cX2_map 9 = .ok (.ifnonnull 5, 3) := by decide +kernel
theorem dX2_map_12 : decode cX2_map 12 = .ok (.iconst (-1), 1) := by decide +kernel
theorem dX2_map_13 : decode cX2_map 13 = .ok (.ireturn, 1) := by decide +kernel
theorem dX2_map_14 : decode cX2_map 14 = .ok (.iload_n 2, 1) := by decide +kernel
theorem dX2_map_15 : decode cX2_map 15 = .ok (.ifCond .lt 17, 3) := by decide +kernel
theorem dX2_map_18 : decode cX2_map 18 = .ok (.iload_n 2, 1) := by decide +kernel
theorem dX2_map_19 : decode cX2_map 19 = .ok (.aload 4, 2) := by decide +kernel
theorem dX2_map_21 : decode cX2_map 21 = .ok (.arraylength, 1) := by decide +kernel
theorem dX2_map_22 : decode cX2_map 22 = .ok (.if_icmp .ge 10, 3) := by decide +kernel
theorem dX2_map_25 : decode cX2_map 25 = .ok (.iload_n 3, 1) := by decide +kernel
theorem dX2_map_26 : decode cX2_map 26 = .ok (.invokestatic 120, 3) := by decide +kernel
theorem dX2_map_29 : decode cX2_map 29 = .ok (.ifCond .ne 6, 3) := by decide +kernel
theorem dX2_map_32 : decode cX2_map 32 = .ok (.bipush (-2), 2) := by decide +kernel
theorem dX2_map_34 : decode cX2_map 34 = .ok (.ireturn, 1) := by decide +kernel
theorem dX2_map_35 : decode cX2_map 35 = .ok (.aload 4, 2) := by decide +kernel
theorem dX2_map_37 : decode cX2_map 37 = .ok (.iload_n 2, 1) := by decide +kernel
theorem dX2_map_38 : decode cX2_map 38 = .ok (.iaload, 1) := by decide +kernel
theorem dX2_map_39 : decode cX2_map 39 = .ok (.istore 5, 2) := by decide +kernel
theorem dX2_map_41 : decode cX2_map 41 = .ok (.aload 4, 2) := by decide +kernel
theorem dX2_map_43 : decode cX2_map 43 = .ok (.iload_n 2, 1) := by decide +kernel
theorem dX2_map_44 : decode cX2_map 44 = .ok (.iload_n 3, 1) := by decide +kernel
theorem dX2_map_45 : decode cX2_map 45 = .ok (.iastore, 1) := by decide +kernel
theorem dX2_map_46 : decode cX2_map 46 = .ok (.iload 5, 2) := by decide +kernel
theorem dX2_map_48 : decode cX2_map 48 = .ok (.ireturn, 1) := by decide +kernel
set_option maxRecDepth 20000 in
theorem ggX2_gives_X2_mapAt : GoodIn wsX2_gives wsX2_mapAt := goodIn_r _ [5, 6, 13, 14, 15, 16, 17, 18, 19] (by decide +kernel) (by decide +kernel)
set_option maxRecDepth 20000 in
theorem gX2_gives_X2_mapAt : GoodIn wsX2_gives (wsV RX2 116 RX2 yX2_mapAt wsX2_mapAt) := goodIn_app (goodIn_of _ (by decide +kernel)) ggX2_gives_X2_mapAt
set_option maxRecDepth 20000 in
theorem ggX2_gives_X2_isMapNumber : GoodIn wsX2_gives wsX2_isMapNumber := goodIn_r _ [9] (by decide +kernel) (by decide +kernel)
set_option maxRecDepth 20000 in
theorem gX2_gives_X2_isMapNumber : GoodIn wsX2_gives (va_wsS RX2 120 yX2_isMapNumber wsX2_isMapNumber) := goodIn_app (goodIn_of _ (by decide +kernel)) ggX2_gives_X2_isMapNumber
set_option maxRecDepth 20000 in
theorem ggX2_gives_X2_sumOf : GoodIn wsX2_gives wsX2_sumOf := goodIn_r _ [12] (by decide +kernel) (by decide +kernel)
set_option maxRecDepth 20000 in
theorem gX2_gives_X2_sumOf : GoodIn wsX2_gives (va_wsS RX2 123 yX2_sumOf wsX2_sumOf) := goodIn_app (goodIn_of _ (by decide +kernel)) ggX2_gives_X2_sumOf
theorem dX2_gives_0 : decode cX2_gives 0 = .ok (.aload_n 0, 1) := by decide +kernel
theorem dX2_gives_1 : decode cX2_gives 1 = .ok (.iload_n 1, 1) := by decide +kernel
theorem dX2_gives_2 : decode cX2_gives 2 = .ok (.invokevirtual 116, 3) := by decide +kernel
theorem dX2_gives_5 : decode cX2_gives 5 = .ok (.astore_n 3, 1) := by decide +kernel
theorem dX2_gives_6 : decode cX2_gives 6 = .ok (.aload_n 3, 1) := by decide +kernel
theorem dX2_gives_7 : decode cX2_gives 7 = .ok (.ifnonnull 5, 3) := by decide +kernel
theorem dX2_gives_10 : decode cX2_gives 10 = .ok (.iconst (-1), 1) := by decide +kernel
theorem dX2_gives_11 : decode cX2_gives 11 = .ok (.ireturn, 1) := by decide +kernel
theorem dX2_gives_12 : decode cX2_gives 12 = .ok (.iload_n 2, 1) := by decide +kernel
theorem dX2_gives_13 : decode cX2_gives 13 = .ok (.invokestatic 120, 3) := by decide +kernel
theorem dX2_gives_16 : decode cX2_gives 16 = .ok (.ifCond .ne 6, 3) := by decide +kernel
theorem dX2_gives_19 : decode cX2_gives 19 = .ok (.bipush (-2), 2) := by decide +kernel
theorem dX2_gives_21 : decode cX2_gives 21 = .ok (.ireturn, 1) := by decide +kernel
theorem dX2_gives_22 : decode cX2_gives 22 = .ok (.aload_n 3, 1) := by decide +kernel
theorem dX2_gives_23 : decode cX2_gives 23 = .ok (.iload_n 2, 1) := by decide +kernel
theorem dX2_gives_24 : decode cX2_gives 24 = .ok (.invokestatic 123, 3) := by decide +kernel
theorem dX2_gives_27 : decode cX2_gives 27 = .ok (.ireturn, 1) := by decide +kernel
set_option maxRecDepth 20000 in
theorem ggX2_fits_X2_mapAt : GoodIn wsX2_fits wsX2_mapAt := goodIn_r _ [5, 6, 19, 20, 21, 22, 23, 24, 25] (by decide +kernel) (by decide +kernel)
set_option maxRecDepth 20000 in
theorem gX2_fits_X2_mapAt : GoodIn wsX2_fits (wsV RX2 116 RX2 yX2_mapAt wsX2_mapAt) := goodIn_app (goodIn_of _ (by decide +kernel)) ggX2_fits_X2_mapAt
set_option maxRecDepth 20000 in
theorem ggX2_fits_X2_isSomeN : GoodIn wsX2_fits wsX2_isSomeN := goodIn_r _ [9] (by decide +kernel) (by decide +kernel)
set_option maxRecDepth 20000 in
theorem gX2_fits_X2_isSomeN : GoodIn wsX2_fits (va_wsS RX2 42 yX2_isSomeN wsX2_isSomeN) := goodIn_app (goodIn_of _ (by decide +kernel)) ggX2_fits_X2_isSomeN
set_option maxRecDepth 20000 in
theorem ggX2_fits_X2_isFit : GoodIn wsX2_fits wsX2_isFit := goodIn_r _ [12, 13, 14, 4, 15] (by decide +kernel) (by decide +kernel)
set_option maxRecDepth 20000 in
theorem gX2_fits_X2_isFit : GoodIn wsX2_fits (va_wsS RX2 127 yX2_isFit wsX2_isFit) := goodIn_app (goodIn_of _ (by decide +kernel)) ggX2_fits_X2_isFit
set_option maxRecDepth 20000 in
theorem ggX2_fits_X2_oneIf : GoodIn wsX2_fits wsX2_oneIf := goodIn_r _ [18] (by decide +kernel) (by decide +kernel)
set_option maxRecDepth 20000 in
theorem gX2_fits_X2_oneIf : GoodIn wsX2_fits (va_wsS RX2 81 yX2_oneIf wsX2_oneIf) := goodIn_app (goodIn_of _ (by decide +kernel)) ggX2_fits_X2_oneIf
theorem dX2_fits_0 : decode cX2_fits 0 = .ok (.aload_n 0, 1) := by decide +kernel
theorem dX2_fits_1 : decode cX2_fits 1 = .ok (.iload_n 1, 1) := by decide +kernel
theorem dX2_fits_2 : decode cX2_fits 2 = .ok (.invokevirtual 116, 3) := by decide +kernel
theorem dX2_fits_5 : decode cX2_fits 5 = .ok (.astore_n 3, 1) := by decide +kernel
theorem dX2_fits_6 : decode cX2_fits 6 = .ok (.aload_n 3, 1) := by decide +kernel
theorem dX2_fits_7 : decode cX2_fits 7 = .ok (.ifnonnull 5, 3) := by decide +kernel
theorem dX2_fits_10 : decode cX2_fits 10 = .ok (.iconst (-1), 1) := by decide +kernel
theorem dX2_fits_11 : decode cX2_fits 11 = .ok (.ireturn, 1) := by decide +kernel
theorem dX2_fits_12 : decode cX2_fits 12 = .ok (.iload_n 2, 1) := by decide +kernel
theorem dX2_fits_13 : decode cX2_fits 13 = .ok (.invokestatic 42, 3) := by decide +kernel
theorem dX2_fits_16 : decode cX2_fits 16 = .ok (.ifCond .ne 6, 3) := by decide +kernel
theorem dX2_fits_19 : decode cX2_fits 19 = .ok (.bipush (-2), 2) := by decide +kernel
theorem dX2_fits_21 : decode cX2_fits 21 = .ok (.ireturn, 1) := by decide +kernel
theorem dX2_fits_22 : decode cX2_fits 22 = .ok (.aload_n 3, 1) := by decide +kernel
theorem dX2_fits_23 : decode cX2_fits 23 = .ok (.iload_n 2, 1) := by decide +kernel
theorem dX2_fits_24 : decode cX2_fits 24 = .ok (.invokestatic 127, 3) := by decide +kernel
theorem dX2_fits_27 : decode cX2_fits 27 = .ok (.invokestatic 81, 3) := by decide +kernel
theorem dX2_fits_30 : decode cX2_fits 30 = .ok (.ireturn, 1) := by decide +kernel
set_option maxRecDepth 20000 in
theorem ggX2_alike_X2_worldIn : GoodIn wsX2_alike wsX2_worldIn := goodIn_r _ [5, 6, 39, 40, 41, 42, 43, 44, 45] (by decide +kernel) (by decide +kernel)
set_option maxRecDepth 20000 in
theorem gX2_alike_X2_worldIn : GoodIn wsX2_alike (wsV RX2 38 RX2 yX2_worldIn wsX2_worldIn) := goodIn_app (goodIn_of _ (by decide +kernel)) ggX2_alike_X2_worldIn
set_option maxRecDepth 20000 in
theorem ggX2_alike_X1_bits : GoodIn wsX2_alike wsX1_bits := goodIn_r _ [11, 12, 46, 47, 48, 49] (by decide +kernel) (by decide +kernel)
set_option maxRecDepth 20000 in
theorem gX2_alike_X1_bits : GoodIn wsX2_alike (wsV RX2 99 RX1 yX1_bits wsX1_bits) := goodIn_app (goodIn_of _ (by decide +kernel)) ggX2_alike_X1_bits
set_option maxRecDepth 20000 in
theorem ggX2_alike_X2_allMapsFit : GoodIn wsX2_alike wsX2_allMapsFit := goodIn_r _ [16, 17, 18, 19, 4, 20, 21, 22, 23, 39, 40, 41, 42, 43, 44, 45] (by decide +kernel) (by decide +kernel)
set_option maxRecDepth 20000 in
theorem gX2_alike_X2_allMapsFit : GoodIn wsX2_alike (wsV RX2 131 RX2 yX2_allMapsFit wsX2_allMapsFit) := goodIn_app (goodIn_of _ (by decide +kernel)) ggX2_alike_X2_allMapsFit
set_option maxRecDepth 20000 in
theorem ggX2_alike_X2_mapsCarry : GoodIn wsX2_alike wsX2_mapsCarry := goodIn_r _ [27, 17, 7, 8, 9, 10, 11, 12, 21, 22, 4, 23, 28, 29, 30, 31, 32, 33, 34, 35, 39, 40, 41, 42, 43, 44, 45, 46, 47, 48, 49] (by decide +kernel) (by decide +kernel)
set_option maxRecDepth 20000 in
theorem gX2_alike_X2_mapsCarry : GoodIn wsX2_alike (wsV RX2 134 RX2 yX2_mapsCarry wsX2_mapsCarry) := goodIn_app (goodIn_of _ (by decide +kernel)) ggX2_alike_X2_mapsCarry
set_option maxRecDepth 20000 in
theorem ggX2_alike_X2_oneIf : GoodIn wsX2_alike wsX2_oneIf := goodIn_r _ [38] (by decide +kernel) (by decide +kernel)
set_option maxRecDepth 20000 in
theorem gX2_alike_X2_oneIf : GoodIn wsX2_alike (va_wsS RX2 81 yX2_oneIf wsX2_oneIf) := goodIn_app (goodIn_of _ (by decide +kernel)) ggX2_alike_X2_oneIf
theorem dX2_alike_0 : decode cX2_alike 0 = .ok (.aload_n 0, 1) := by decide +kernel
theorem dX2_alike_1 : decode cX2_alike 1 = .ok (.iload_n 1, 1) := by decide +kernel
theorem dX2_alike_2 : decode cX2_alike 2 = .ok (.invokevirtual 38, 3) := by decide +kernel
theorem dX2_alike_5 : decode cX2_alike 5 = .ok (.astore_n 3, 1) := by decide +kernel
theorem dX2_alike_6 : decode cX2_alike 6 = .ok (.aload_n 0, 1) := by decide +kernel
theorem dX2_alike_7 : decode cX2_alike 7 = .ok (.iload_n 2, 1) := by decide +kernel
theorem dX2_alike_8 : decode cX2_alike 8 = .ok (.invokevirtual 38, 3) := by decide +kernel
theorem dX2_alike_11 : decode cX2_alike 11 = .ok (.astore 4, 2) := by decide +kernel
theorem dX2_alike_13 : decode cX2_alike 13 = .ok (.aload_n 3, 1) := by decide +kernel
theorem dX2_alike_14 : decode cX2_alike 14 = .ok (.ifnull 8, 3) := by decide +kernel
theorem dX2_alike_17 : decode cX2_alike 17 = .ok (.aload 4, 2) := by decide +kernel
theorem dX2_alike_19 : decode cX2_alike 19 = .ok (.ifnonnull 5, 3) := by decide +kernel
theorem dX2_alike_22 : decode cX2_alike 22 = .ok (.iconst (-1), 1) := by decide +kernel
theorem dX2_alike_23 : decode cX2_alike 23 = .ok (.ireturn, 1) := by decide +kernel
theorem dX2_alike_24 : decode cX2_alike 24 = .ok (.aload_n 3, 1) := by decide +kernel
theorem dX2_alike_25 : decode cX2_alike 25 = .ok (.invokevirtual 99, 3) := by decide +kernel
theorem dX2_alike_28 : decode cX2_alike 28 = .ok (.aload 4, 2) := by decide +kernel
theorem dX2_alike_30 : decode cX2_alike 30 = .ok (.invokevirtual 99, 3) := by decide +kernel
theorem dX2_alike_33 : decode cX2_alike 33 = .ok (.if_icmp .eq 6, 3) := by decide +kernel
theorem dX2_alike_36 : decode cX2_alike 36 = .ok (.bipush (-3), 2) := by decide +kernel
theorem dX2_alike_38 : decode cX2_alike 38 = .ok (.ireturn, 1) := by decide +kernel
theorem dX2_alike_39 : decode cX2_alike 39 = .ok (.aload_n 0, 1) := by decide +kernel
theorem dX2_alike_40 : decode cX2_alike 40 = .ok (.aload_n 3, 1) := by decide +kernel
theorem dX2_alike_41 : decode cX2_alike 41 = .ok (.invokevirtual 99, 3) := by decide +kernel
theorem dX2_alike_44 : decode cX2_alike 44 = .ok (.invokevirtual 131, 3) := by decide +kernel
theorem dX2_alike_47 : decode cX2_alike 47 = .ok (.ifCond .eq 17, 3) := by decide +kernel
theorem dX2_alike_50 : decode cX2_alike 50 = .ok (.aload_n 0, 1) := by decide +kernel
theorem dX2_alike_51 : decode cX2_alike 51 = .ok (.aload_n 3, 1) := by decide +kernel
theorem dX2_alike_52 : decode cX2_alike 52 = .ok (.aload 4, 2) := by decide +kernel
theorem dX2_alike_54 : decode cX2_alike 54 = .ok (.invokevirtual 134, 3) := by decide +kernel
theorem dX2_alike_57 : decode cX2_alike 57 = .ok (.ifCond .eq 7, 3) := by decide +kernel
theorem dX2_alike_60 : decode cX2_alike 60 = .ok (.iconst 1, 1) := by decide +kernel
theorem dX2_alike_61 : decode cX2_alike 61 = .ok (.goto 4, 3) := by decide +kernel
theorem dX2_alike_64 : decode cX2_alike 64 = .ok (.iconst 0, 1) := by decide +kernel
theorem dX2_alike_65 : decode cX2_alike 65 = .ok (.invokestatic 81, 3) := by decide +kernel
theorem dX2_alike_68 : decode cX2_alike 68 = .ok (.ireturn, 1) := by decide +kernel
set_option maxRecDepth 20000 in
theorem ggX2_carry_X2_worldIn : GoodIn wsX2_carry wsX2_worldIn := goodIn_r _ [7, 8, 57, 58, 59, 60, 61, 62, 63] (by decide +kernel) (by decide +kernel)
set_option maxRecDepth 20000 in
theorem gX2_carry_X2_worldIn : GoodIn wsX2_carry (wsV RX2 38 RX2 yX2_worldIn wsX2_worldIn) := goodIn_app (goodIn_of _ (by decide +kernel)) ggX2_carry_X2_worldIn
set_option maxRecDepth 20000 in
theorem ggX2_carry_X1_bits : GoodIn wsX2_carry wsX1_bits := goodIn_r _ [13, 14, 64, 65, 66, 67] (by decide +kernel) (by decide +kernel)
set_option maxRecDepth 20000 in
theorem gX2_carry_X1_bits : GoodIn wsX2_carry (wsV RX2 99 RX1 yX1_bits wsX1_bits) := goodIn_app (goodIn_of _ (by decide +kernel)) ggX2_carry_X1_bits
set_option maxRecDepth 20000 in
theorem ggX2_carry_X2_allMapsFit : GoodIn wsX2_carry wsX2_allMapsFit := goodIn_r _ [18, 1, 19, 20, 6, 21, 22, 23, 24, 57, 58, 59, 60, 61, 62, 63] (by decide +kernel) (by decide +kernel)
set_option maxRecDepth 20000 in
theorem gX2_carry_X2_allMapsFit : GoodIn wsX2_carry (wsV RX2 131 RX2 yX2_allMapsFit wsX2_allMapsFit) := goodIn_app (goodIn_of _ (by decide +kernel)) ggX2_carry_X2_allMapsFit
set_option maxRecDepth 20000 in
theorem ggX2_carry_X2_sourceOf : GoodIn wsX2_carry wsX2_sourceOf := goodIn_r _ [27, 22, 23, 6, 24] (by decide +kernel) (by decide +kernel)
set_option maxRecDepth 20000 in
theorem gX2_carry_X2_sourceOf : GoodIn wsX2_carry (va_wsS RX2 138 yX2_sourceOf wsX2_sourceOf) := goodIn_app (goodIn_of _ (by decide +kernel)) ggX2_carry_X2_sourceOf
set_option maxRecDepth 20000 in
theorem ggX2_carry_X2_cellIndex : GoodIn wsX2_carry wsX2_cellIndex := goodIn_r _ [30] (by decide +kernel) (by decide +kernel)
set_option maxRecDepth 20000 in
theorem gX2_carry_X2_cellIndex : GoodIn wsX2_carry (va_wsS RX2 46 yX2_cellIndex wsX2_cellIndex) := goodIn_app (goodIn_of _ (by decide +kernel)) ggX2_carry_X2_cellIndex
set_option maxRecDepth 20000 in
theorem ggX2_carry_X1_times : GoodIn wsX2_carry wsX1_times := goodIn_r _ [34, 35, 36, 37, 12, 38, 64, 65, 66, 67] (by decide +kernel) (by decide +kernel)
set_option maxRecDepth 20000 in
theorem gX2_carry_X1_times : GoodIn wsX2_carry (wsV RX2 74 RX1 yX1_times wsX1_times) := goodIn_app (goodIn_of _ (by decide +kernel)) ggX2_carry_X1_times
set_option maxRecDepth 20000 in
theorem ggX2_carry_X2_sumOf : GoodIn wsX2_carry wsX2_sumOf := goodIn_r _ [24] (by decide +kernel) (by decide +kernel)
set_option maxRecDepth 20000 in
theorem gX2_carry_X2_sumOf : GoodIn wsX2_carry (va_wsS RX2 123 yX2_sumOf wsX2_sumOf) := goodIn_app (goodIn_of _ (by decide +kernel)) ggX2_carry_X2_sumOf
set_option maxRecDepth 20000 in
theorem ggX2_carry_X1_take : GoodIn wsX2_carry wsX1_take := goodIn_r _ [42, 14, 43, 44, 45, 46, 47, 12, 48, 35, 36, 37, 38, 49, 50, 51, 52, 53, 54, 55, 56, 29, 6, 30, 64, 65, 66, 67] (by decide +kernel) (by decide +kernel)
set_option maxRecDepth 20000 in
theorem gX2_carry_X1_take : GoodIn wsX2_carry (wsV RX2 50 RX1 yX1_take wsX1_take) := goodIn_app (goodIn_of _ (by decide +kernel)) ggX2_carry_X1_take
theorem dX2_carry_0 : decode cX2_carry 0 = .ok (.aload_n 0, 1) := by decide +kernel
theorem dX2_carry_1 : decode cX2_carry 1 = .ok (.iload_n 1, 1) := by decide +kernel
theorem dX2_carry_2 : decode cX2_carry 2 = .ok (.invokevirtual 38, 3) := by decide +kernel
theorem dX2_carry_5 : decode cX2_carry 5 = .ok (.astore_n 3, 1) := by decide +kernel
theorem dX2_carry_6 : decode cX2_carry 6 = .ok (.aload_n 0, 1) := by decide +kernel
theorem dX2_carry_7 : decode cX2_carry 7 = .ok (.iload_n 2, 1) := by decide +kernel
theorem dX2_carry_8 : decode cX2_carry 8 = .ok (.invokevirtual 38, 3) := by decide +kernel
theorem dX2_carry_11 : decode cX2_carry 11 = .ok (.astore 4, 2) := by decide +kernel
theorem dX2_carry_13 : decode cX2_carry 13 = .ok (.aload_n 3, 1) := by decide +kernel
theorem dX2_carry_14 : decode cX2_carry 14 = .ok (.ifnull 8, 3) := by decide +kernel
theorem dX2_carry_17 : decode cX2_carry 17 = .ok (.aload 4, 2) := by decide +kernel
theorem dX2_carry_19 : decode cX2_carry 19 = .ok (.ifnonnull 5, 3) := by decide +kernel
theorem dX2_carry_22 : decode cX2_carry 22 = .ok (.iconst (-1), 1) := by decide +kernel
theorem dX2_carry_23 : decode cX2_carry 23 = .ok (.ireturn, 1) := by decide +kernel
theorem dX2_carry_24 : decode cX2_carry 24 = .ok (.aload 4, 2) := by decide +kernel
theorem dX2_carry_26 : decode cX2_carry 26 = .ok (.invokevirtual 99, 3) := by decide +kernel
theorem dX2_carry_29 : decode cX2_carry 29 = .ok (.istore 5, 2) := by decide +kernel
theorem dX2_carry_31 : decode cX2_carry 31 = .ok (.aload_n 0, 1) := by decide +kernel
theorem dX2_carry_32 : decode cX2_carry 32 = .ok (.iload 5, 2) := by decide +kernel
theorem dX2_carry_34 : decode cX2_carry 34 = .ok (.invokevirtual 131, 3) := by decide +kernel
theorem dX2_carry_37 : decode cX2_carry 37 = .ok (.ifCond .ne 6, 3) := by decide +kernel
theorem dX2_carry_40 : decode cX2_carry 40 = .ok (.bipush (-3), 2) := by decide +kernel
theorem dX2_carry_42 : decode cX2_carry 42 = .ok (.ireturn, 1) := by decide +kernel
theorem dX2_carry_43 : decode cX2_carry 43 = .ok (.iconst 0, 1) := by decide +kernel
theorem dX2_carry_44 : decode cX2_carry 44 = .ok (.istore 6, 2) := by decide +kernel
theorem dX2_carry_46 : decode cX2_carry 46 = .ok (.iload 6, 2) := by decide +kernel
theorem dX2_carry_48 : decode cX2_carry 48 = .ok (.iload 5, 2) := by decide +kernel
theorem dX2_carry_50 : decode cX2_carry 50 = .ok (.if_icmp .ge 89, 3) := by decide +kernel
theorem dX2_carry_53 : decode cX2_carry 53 = .ok (.aload_n 0, 1) := by decide +kernel
theorem dX2_carry_54 : decode cX2_carry 54 = .ok (.getfield 17, 3) := by decide +kernel
theorem dX2_carry_57 : decode cX2_carry 57 = .ok (.iconst 0, 1) := by decide +kernel
theorem dX2_carry_58 : decode cX2_carry 58 = .ok (.aaload, 1) := by decide +kernel
theorem dX2_carry_59 : decode cX2_carry 59 = .ok (.iload 5, 2) := by decide +kernel
theorem dX2_carry_61 : decode cX2_carry 61 = .ok (.iconst 1, 1) := by decide +kernel
theorem dX2_carry_62 : decode cX2_carry 62 = .ok (.iload 6, 2) := by decide +kernel
theorem dX2_carry_64 : decode cX2_carry 64 = .ok (.ishl, 1) := by decide +kernel
theorem dX2_carry_65 : decode cX2_carry 65 = .ok (.invokestatic 138, 3) := by decide +kernel
theorem dX2_carry_68 : decode cX2_carry 68 = .ok (.istore 7, 2) := by decide +kernel
theorem dX2_carry_70 : decode cX2_carry 70 = .ok (.iconst 0, 1) := by decide +kernel
theorem dX2_carry_71 : decode cX2_carry 71 = .ok (.istore 8, 2) := by decide +kernel
theorem dX2_carry_73 : decode cX2_carry 73 = .ok (.iload 8, 2) := by decide +kernel
theorem dX2_carry_75 : decode cX2_carry 75 = .ok (.iload 5, 2) := by decide +kernel
theorem dX2_carry_77 : decode cX2_carry 77 = .ok (.if_icmp .ge 56, 3) := by decide +kernel
theorem dX2_carry_80 : decode cX2_carry 80 = .ok (.aload_n 0, 1) := by decide +kernel
theorem dX2_carry_81 : decode cX2_carry 81 = .ok (.getfield 17, 3) := by decide +kernel
theorem dX2_carry_84 : decode cX2_carry 84 = .ok (.iconst 1, 1) := by decide +kernel
theorem dX2_carry_85 : decode cX2_carry 85 = .ok (.aaload, 1) := by decide +kernel
theorem dX2_carry_86 : decode cX2_carry 86 = .ok (.iload 5, 2) := by decide +kernel
theorem dX2_carry_88 : decode cX2_carry 88 = .ok (.iconst 1, 1) := by decide +kernel
theorem dX2_carry_89 : decode cX2_carry 89 = .ok (.iload 8, 2) := by decide +kernel
theorem dX2_carry_91 : decode cX2_carry 91 = .ok (.ishl, 1) := by decide +kernel
theorem dX2_carry_92 : decode cX2_carry 92 = .ok (.invokestatic 138, 3) := by decide +kernel
theorem dX2_carry_95 : decode cX2_carry 95 = .ok (.istore 9, 2) := by decide +kernel
theorem dX2_carry_97 : decode cX2_carry 97 = .ok (.aload_n 0, 1) := by decide +kernel
theorem dX2_carry_98 : decode cX2_carry 98 = .ok (.getfield 25, 3) := by decide +kernel
theorem dX2_carry_101 : decode cX2_carry 101 = .ok (.iload 6, 2) := by decide +kernel
theorem dX2_carry_103 : decode cX2_carry 103 = .ok (.iload 8, 2) := by decide +kernel
theorem dX2_carry_105 : decode cX2_carry 105 = .ok (.invokestatic 46, 3) := by decide +kernel
theorem dX2_carry_108 : decode cX2_carry 108 = .ok (.aload_n 0, 1) := by decide +kernel
theorem dX2_carry_109 : decode cX2_carry 109 = .ok (.getfield 17, 3) := by decide +kernel
theorem dX2_carry_112 : decode cX2_carry 112 = .ok (.iconst 2, 1) := by decide +kernel
theorem dX2_carry_113 : decode cX2_carry 113 = .ok (.aaload, 1) := by decide +kernel
theorem dX2_carry_114 : decode cX2_carry 114 = .ok (.aload 4, 2) := by decide +kernel
theorem dX2_carry_116 : decode cX2_carry 116 = .ok (.iload 7, 2) := by decide +kernel
theorem dX2_carry_118 : decode cX2_carry 118 = .ok (.iload 9, 2) := by decide +kernel
theorem dX2_carry_120 : decode cX2_carry 120 = .ok (.invokevirtual 74, 3) := by decide +kernel
theorem dX2_carry_123 : decode cX2_carry 123 = .ok (.invokestatic 123, 3) := by decide +kernel
theorem dX2_carry_126 : decode cX2_carry 126 = .ok (.iastore, 1) := by decide +kernel
theorem dX2_carry_127 : decode cX2_carry 127 = .ok (.iinc 8 1, 3) := by decide +kernel
theorem dX2_carry_130 : decode cX2_carry 130 = .ok (.goto (-57), 3) := by decide +kernel
theorem dX2_carry_133 : decode cX2_carry 133 = .ok (.iinc 6 1, 3) := by decide +kernel
theorem dX2_carry_136 : decode cX2_carry 136 = .ok (.goto (-90), 3) := by decide +kernel
theorem dX2_carry_139 : decode cX2_carry 139 = .ok (.aload_n 3, 1) := by decide +kernel
theorem dX2_carry_140 : decode cX2_carry 140 = .ok (.iload 5, 2) := by decide +kernel
theorem dX2_carry_142 : decode cX2_carry 142 = .ok (.aload_n 0, 1) := by decide +kernel
theorem dX2_carry_143 : decode cX2_carry 143 = .ok (.getfield 25, 3) := by decide +kernel
theorem dX2_carry_146 : decode cX2_carry 146 = .ok (.invokevirtual 50, 3) := by decide +kernel
theorem dX2_carry_149 : decode cX2_carry 149 = .ok (.iconst 1, 1) := by decide +kernel
theorem dX2_carry_150 : decode cX2_carry 150 = .ok (.ireturn, 1) := by decide +kernel
set_option maxRecDepth 20000 in
theorem ggX2_ways_X2_worldIn : GoodIn wsX2_ways wsX2_worldIn := goodIn_r _ [5, 6, 67, 68, 69, 70, 71, 72, 73] (by decide +kernel) (by decide +kernel)
set_option maxRecDepth 20000 in
theorem gX2_ways_X2_worldIn : GoodIn wsX2_ways (wsV RX2 38 RX2 yX2_worldIn wsX2_worldIn) := goodIn_app (goodIn_of _ (by decide +kernel)) ggX2_ways_X2_worldIn
set_option maxRecDepth 20000 in
theorem ggX2_ways_X1_bits : GoodIn wsX2_ways wsX1_bits := goodIn_r _ [11, 12, 74, 75, 76, 77] (by decide +kernel) (by decide +kernel)
set_option maxRecDepth 20000 in
theorem gX2_ways_X1_bits : GoodIn wsX2_ways (wsV RX2 99 RX1 yX1_bits wsX1_bits) := goodIn_app (goodIn_of _ (by decide +kernel)) ggX2_ways_X1_bits
set_option maxRecDepth 20000 in
theorem ggX2_ways_X1_isWhole : GoodIn wsX2_ways wsX1_isWhole := goodIn_r _ [16, 17, 18, 19, 10, 20, 21, 22, 23, 24, 25, 26, 27, 28, 29, 30, 31, 32, 33, 74, 75, 76, 77] (by decide +kernel) (by decide +kernel)
set_option maxRecDepth 20000 in
theorem gX2_ways_X1_isWhole : GoodIn wsX2_ways (wsV RX2 77 RX1 yX1_isWhole wsX1_isWhole) := goodIn_app (goodIn_of _ (by decide +kernel)) ggX2_ways_X1_isWhole
set_option maxRecDepth 20000 in
theorem ggX2_ways_X2_countWays : GoodIn wsX2_ways wsX2_countWays := goodIn_r _ [37, 38, 39, 7, 8, 9, 10, 11, 12, 40, 41, 42, 43, 21, 26, 27, 28, 29, 30, 31, 32, 33, 44, 45, 4, 46, 47, 48, 49, 50, 51, 52, 53, 54, 55, 56, 57, 58, 59, 60, 61, 62, 63, 64, 65, 66, 67, 68, 69, 70, 71, 72, 73, 74, 75, 76, 77] (by decide +kernel) (by decide +kernel)
set_option maxRecDepth 20000 in
theorem gX2_ways_X2_countWays : GoodIn wsX2_ways (wsV RX2 142 RX2 yX2_countWays wsX2_countWays) := goodIn_app (goodIn_of _ (by decide +kernel)) ggX2_ways_X2_countWays
theorem dX2_ways_0 : decode cX2_ways 0 = .ok (.aload_n 0, 1) := by decide +kernel
theorem dX2_ways_1 : decode cX2_ways 1 = .ok (.iload_n 1, 1) := by decide +kernel
theorem dX2_ways_2 : decode cX2_ways 2 = .ok (.invokevirtual 38, 3) := by decide +kernel
theorem dX2_ways_5 : decode cX2_ways 5 = .ok (.astore_n 3, 1) := by decide +kernel
theorem dX2_ways_6 : decode cX2_ways 6 = .ok (.aload_n 0, 1) := by decide +kernel
theorem dX2_ways_7 : decode cX2_ways 7 = .ok (.iload_n 2, 1) := by decide +kernel
theorem dX2_ways_8 : decode cX2_ways 8 = .ok (.invokevirtual 38, 3) := by decide +kernel
theorem dX2_ways_11 : decode cX2_ways 11 = .ok (.astore 4, 2) := by decide +kernel
theorem dX2_ways_13 : decode cX2_ways 13 = .ok (.aload_n 3, 1) := by decide +kernel
theorem dX2_ways_14 : decode cX2_ways 14 = .ok (.ifnull 8, 3) := by decide +kernel
theorem dX2_ways_17 : decode cX2_ways 17 = .ok (.aload 4, 2) := by decide +kernel
theorem dX2_ways_19 : decode cX2_ways 19 = .ok (.ifnonnull 5, 3) := by decide +kernel
theorem dX2_ways_22 : decode cX2_ways 22 = .ok (.iconst (-1), 1) := by decide +kernel
theorem dX2_ways_23 : decode cX2_ways 23 = .ok (.ireturn, 1) := by decide +kernel
theorem dX2_ways_24 : decode cX2_ways 24 = .ok (.aload_n 3, 1) := by decide +kernel
theorem dX2_ways_25 : decode cX2_ways 25 = .ok (.invokevirtual 99, 3) := by decide +kernel
theorem dX2_ways_28 : decode cX2_ways 28 = .ok (.aload 4, 2) := by decide +kernel
theorem dX2_ways_30 : decode cX2_ways 30 = .ok (.invokevirtual 99, 3) := by decide +kernel
theorem dX2_ways_33 : decode cX2_ways 33 = .ok (.if_icmp .ne 11, 3) := by decide +kernel
theorem dX2_ways_36 : decode cX2_ways 36 = .ok (.aload_n 3, 1) := by decide +kernel
theorem dX2_ways_37 : decode cX2_ways 37 = .ok (.invokevirtual 99, 3) := by decide +kernel
theorem dX2_ways_40 : decode cX2_ways 40 = .ok (.iconst 3, 1) := by decide +kernel
theorem dX2_ways_41 : decode cX2_ways 41 = .ok (.if_icmp .le 6, 3) := by decide +kernel
theorem dX2_ways_44 : decode cX2_ways 44 = .ok (.bipush (-3), 2) := by decide +kernel
theorem dX2_ways_46 : decode cX2_ways 46 = .ok (.ireturn, 1) := by decide +kernel
theorem dX2_ways_47 : decode cX2_ways 47 = .ok (.aload_n 3, 1) := by decide +kernel
theorem dX2_ways_48 : decode cX2_ways 48 = .ok (.invokevirtual 77, 3) := by decide +kernel
theorem dX2_ways_51 : decode cX2_ways 51 = .ok (.ifCond .eq 11, 3) := by decide +kernel
theorem dX2_ways_54 : decode cX2_ways 54 = .ok (.aload 4, 2) := by decide +kernel
theorem dX2_ways_56 : decode cX2_ways 56 = .ok (.invokevirtual 77, 3) := by decide +kernel
theorem dX2_ways_59 : decode cX2_ways 59 = .ok (.ifCond .ne 6, 3) := by decide +kernel
theorem dX2_ways_62 : decode cX2_ways 62 = .ok (.bipush (-3), 2) := by decide +kernel
theorem dX2_ways_64 : decode cX2_ways 64 = .ok (.ireturn, 1) := by decide +kernel
theorem dX2_ways_65 : decode cX2_ways 65 = .ok (.aload_n 0, 1) := by decide +kernel
theorem dX2_ways_66 : decode cX2_ways 66 = .ok (.aload_n 3, 1) := by decide +kernel
theorem dX2_ways_67 : decode cX2_ways 67 = .ok (.aload 4, 2) := by decide +kernel
theorem dX2_ways_69 : decode cX2_ways 69 = .ok (.invokevirtual 142, 3) := by decide +kernel
theorem dX2_ways_72 : decode cX2_ways 72 = .ok (.ireturn, 1) := by decide +kernel
set_option maxRecDepth 20000 in
theorem ggX2_on_X2_worldIn : GoodIn wsX2_on wsX2_worldIn := goodIn_r _ [5, 6, 48, 49, 50, 51, 52, 53, 54] (by decide +kernel) (by decide +kernel)
set_option maxRecDepth 20000 in
theorem gX2_on_X2_worldIn : GoodIn wsX2_on (wsV RX2 38 RX2 yX2_worldIn wsX2_worldIn) := goodIn_app (goodIn_of _ (by decide +kernel)) ggX2_on_X2_worldIn
set_option maxRecDepth 20000 in
theorem ggX2_on_X0_has : GoodIn wsX2_on wsX0_has := goodIn_r _ [10, 11, 12, 9, 13, 14, 15, 16, 17, 18, 19, 20, 21, 22, 55, 56, 57, 58] (by decide +kernel) (by decide +kernel)
set_option maxRecDepth 20000 in
theorem gX2_on_X0_has : GoodIn wsX2_on (va_wsS RX2 146 yX0_has wsX0_has) := goodIn_app (goodIn_of _ (by decide +kernel)) ggX2_on_X0_has
set_option maxRecDepth 20000 in
theorem ggX2_on_X0_lies : GoodIn wsX2_on wsX0_lies := goodIn_r _ [25, 14, 15, 9, 16, 17, 18, 19, 20, 21, 22, 11, 12, 13, 26, 27, 28, 29, 30, 31, 32, 33, 34, 35, 36, 37, 38, 39, 40, 41, 42, 43, 44, 55, 56, 57, 58] (by decide +kernel) (by decide +kernel)
set_option maxRecDepth 20000 in
theorem gX2_on_X0_lies : GoodIn wsX2_on (va_wsS RX2 151 yX0_lies wsX0_lies) := goodIn_app (goodIn_of _ (by decide +kernel)) ggX2_on_X0_lies
set_option maxRecDepth 20000 in
theorem ggX2_on_X2_oneIf : GoodIn wsX2_on wsX2_oneIf := goodIn_r _ [47] (by decide +kernel) (by decide +kernel)
set_option maxRecDepth 20000 in
theorem gX2_on_X2_oneIf : GoodIn wsX2_on (va_wsS RX2 81 yX2_oneIf wsX2_oneIf) := goodIn_app (goodIn_of _ (by decide +kernel)) ggX2_on_X2_oneIf
theorem dX2_on_0 : decode cX2_on 0 = .ok (.aload_n 0, 1) := by decide +kernel
theorem dX2_on_1 : decode cX2_on 1 = .ok (.iload_n 1, 1) := by decide +kernel
theorem dX2_on_2 : decode cX2_on 2 = .ok (.invokevirtual 38, 3) := by decide +kernel
theorem dX2_on_5 : decode cX2_on 5 = .ok (.astore 4, 2) := by decide +kernel
theorem dX2_on_7 : decode cX2_on 7 = .ok (.aload 4, 2) := by decide +kernel
theorem dX2_on_9 : decode cX2_on 9 = .ok (.ifnull 21, 3) := by decide +kernel
theorem dX2_on_12 : decode cX2_on 12 = .ok (.aload 4, 2) := by decide +kernel
theorem dX2_on_14 : decode cX2_on 14 = .ok (.iload_n 2, 1) := by decide +kernel
theorem dX2_on_15 : decode cX2_on 15 = .ok (.invokestatic 146, 3) := by decide +kernel
theorem dX2_on_18 : decode cX2_on 18 = .ok (.ifCond .eq 12, 3) := by decide +kernel
theorem dX2_on_21 : decode cX2_on 21 = .ok (.aload 4, 2) := by decide +kernel
theorem dX2_on_23 : decode cX2_on 23 = .ok (.iload_n 3, 1) := by decide +kernel
theorem dX2_on_24 : decode cX2_on 24 = .ok (.invokestatic 146, 3) := by decide +kernel
theorem dX2_on_27 : decode cX2_on 27 = .ok (.ifCond .ne 5, 3) := by decide +kernel
theorem dX2_on_30 : decode cX2_on 30 = .ok (.iconst (-1), 1) := by decide +kernel
theorem dX2_on_31 : decode cX2_on 31 = .ok (.ireturn, 1) := by decide +kernel
theorem dX2_on_32 : decode cX2_on 32 = .ok (.aload 4, 2) := by decide +kernel
theorem dX2_on_34 : decode cX2_on 34 = .ok (.iload_n 2, 1) := by decide +kernel
theorem dX2_on_35 : decode cX2_on 35 = .ok (.iload_n 3, 1) := by decide +kernel
theorem dX2_on_36 : decode cX2_on 36 = .ok (.invokestatic 151, 3) := by decide +kernel
theorem dX2_on_39 : decode cX2_on 39 = .ok (.invokestatic 81, 3) := by decide +kernel
theorem dX2_on_42 : decode cX2_on 42 = .ok (.ireturn, 1) := by decide +kernel
set_option maxRecDepth 20000 in
theorem ggX2_join_X2_worldIn : GoodIn wsX2_join wsX2_worldIn := goodIn_r _ [12, 13, 57, 58, 59, 60, 61, 62, 63] (by decide +kernel) (by decide +kernel)
set_option maxRecDepth 20000 in
theorem gX2_join_X2_worldIn : GoodIn wsX2_join (wsV RX2 38 RX2 yX2_worldIn wsX2_worldIn) := goodIn_app (goodIn_of _ (by decide +kernel)) ggX2_join_X2_worldIn
set_option maxRecDepth 20000 in
theorem ggX2_join_X0_has : GoodIn wsX2_join wsX0_has := goodIn_r _ [17, 18, 19, 16, 20, 21, 22, 23, 24, 25, 26, 27, 28, 29, 64, 65, 66, 67] (by decide +kernel) (by decide +kernel)
set_option maxRecDepth 20000 in
theorem gX2_join_X0_has : GoodIn wsX2_join (va_wsS RX2 146 yX0_has wsX0_has) := goodIn_app (goodIn_of _ (by decide +kernel)) ggX2_join_X0_has
set_option maxRecDepth 20000 in
theorem ggX2_join_X0_lineThrough : GoodIn wsX2_join wsX0_lineThrough := goodIn_r _ [32, 21, 22, 16, 23, 24, 25, 26, 27, 28, 29, 18, 19, 20, 33, 34, 35, 36, 37, 38, 39, 40, 41, 42, 43, 44, 45, 46, 47, 48, 49, 50, 51, 52, 53, 54, 55, 56, 64, 65, 66, 67] (by decide +kernel) (by decide +kernel)
set_option maxRecDepth 20000 in
theorem gX2_join_X0_lineThrough : GoodIn wsX2_join (va_wsS RX2 163 yX0_lineThrough wsX0_lineThrough) := goodIn_app (goodIn_of _ (by decide +kernel)) ggX2_join_X0_lineThrough
theorem dX2_join_0 : decode cX2_join 0 = .ok (.aload_n 0, 1) := by decide +kernel
theorem dX2_join_1 : decode cX2_join 1 = .ok (.iload_n 1, 1) := by decide +kernel
theorem dX2_join_2 : decode cX2_join 2 = .ok (.invokevirtual 38, 3) := by decide +kernel
theorem dX2_join_5 : decode cX2_join 5 = .ok (.astore 4, 2) := by decide +kernel
theorem dX2_join_7 : decode cX2_join 7 = .ok (.aload 4, 2) := by decide +kernel
theorem dX2_join_9 : decode cX2_join 9 = .ok (.ifnull 21, 3) := by decide +kernel
theorem dX2_join_12 : decode cX2_join 12 = .ok (.aload 4, 2) := by decide +kernel
theorem dX2_join_14 : decode cX2_join 14 = .ok (.iload_n 2, 1) := by decide +kernel
theorem dX2_join_15 : decode cX2_join 15 = .ok (.invokestatic 146, 3) := by decide +kernel
theorem dX2_join_18 : decode cX2_join 18 = .ok (.ifCond .eq 12, 3) := by decide +kernel
theorem dX2_join_21 : decode cX2_join 21 = .ok (.aload 4, 2) := by decide +kernel
theorem dX2_join_23 : decode cX2_join 23 = .ok (.iload_n 3, 1) := by decide +kernel
theorem dX2_join_24 : decode cX2_join 24 = .ok (.invokestatic 146, 3) := by decide +kernel
theorem dX2_join_27 : decode cX2_join 27 = .ok (.ifCond .ne 5, 3) := by decide +kernel
theorem dX2_join_30 : decode cX2_join 30 = .ok (.iconst (-1), 1) := by decide +kernel
theorem dX2_join_31 : decode cX2_join 31 = .ok (.ireturn, 1) := by decide +kernel
theorem dX2_join_32 : decode cX2_join 32 = .ok (.iload_n 2, 1) := by decide +kernel
theorem dX2_join_33 : decode cX2_join 33 = .ok (.iload_n 3, 1) := by decide +kernel
theorem dX2_join_34 : decode cX2_join 34 = .ok (.if_icmp .ne 6, 3) := by decide +kernel
theorem dX2_join_37 : decode cX2_join 37 = .ok (.bipush (-3), 2) := by decide +kernel
theorem dX2_join_39 : decode cX2_join 39 = .ok (.ireturn, 1) := by decide +kernel
theorem dX2_join_40 : decode cX2_join 40 = .ok (.aload 4, 2) := by decide +kernel
theorem dX2_join_42 : decode cX2_join 42 = .ok (.iload_n 2, 1) := by decide +kernel
theorem dX2_join_43 : decode cX2_join 43 = .ok (.iload_n 3, 1) := by decide +kernel
theorem dX2_join_44 : decode cX2_join 44 = .ok (.invokestatic 155, 3) := by decide +kernel
theorem dX2_join_47 : decode cX2_join 47 = .ok (.iload_n 2, 1) := by decide +kernel
theorem dX2_join_48 : decode cX2_join 48 = .ok (.iload_n 3, 1) := by decide +kernel
theorem dX2_join_49 : decode cX2_join 49 = .ok (.invokestatic 160, 3) := by decide +kernel
theorem dX2_join_52 : decode cX2_join 52 = .ok (.invokestatic 163, 3) := by decide +kernel
theorem dX2_join_55 : decode cX2_join 55 = .ok (.ireturn, 1) := by decide +kernel
set_option maxRecDepth 20000 in
theorem ggX2_meet_X2_worldIn : GoodIn wsX2_meet wsX2_worldIn := goodIn_r _ [12, 13, 57, 58, 59, 60, 61, 62, 63] (by decide +kernel) (by decide +kernel)
set_option maxRecDepth 20000 in
theorem gX2_meet_X2_worldIn : GoodIn wsX2_meet (wsV RX2 38 RX2 yX2_worldIn wsX2_worldIn) := goodIn_app (goodIn_of _ (by decide +kernel)) ggX2_meet_X2_worldIn
set_option maxRecDepth 20000 in
theorem ggX2_meet_X0_has : GoodIn wsX2_meet wsX0_has := goodIn_r _ [17, 18, 19, 16, 20, 21, 22, 23, 24, 25, 26, 27, 28, 29, 64, 65, 66, 67] (by decide +kernel) (by decide +kernel)
set_option maxRecDepth 20000 in
theorem gX2_meet_X0_has : GoodIn wsX2_meet (va_wsS RX2 146 yX0_has wsX0_has) := goodIn_app (goodIn_of _ (by decide +kernel)) ggX2_meet_X0_has
set_option maxRecDepth 20000 in
theorem ggX2_meet_X0_pointOfBoth : GoodIn wsX2_meet wsX0_pointOfBoth := goodIn_r _ [32, 21, 22, 16, 23, 24, 25, 26, 27, 28, 29, 18, 19, 20, 33, 34, 35, 36, 37, 38, 39, 40, 41, 42, 43, 44, 45, 46, 47, 48, 49, 50, 51, 52, 53, 54, 55, 56, 64, 65, 66, 67] (by decide +kernel) (by decide +kernel)
set_option maxRecDepth 20000 in
theorem gX2_meet_X0_pointOfBoth : GoodIn wsX2_meet (va_wsS RX2 167 yX0_pointOfBoth wsX0_pointOfBoth) := goodIn_app (goodIn_of _ (by decide +kernel)) ggX2_meet_X0_pointOfBoth
theorem dX2_meet_0 : decode cX2_meet 0 = .ok (.aload_n 0, 1) := by decide +kernel
theorem dX2_meet_1 : decode cX2_meet 1 = .ok (.iload_n 1, 1) := by decide +kernel
theorem dX2_meet_2 : decode cX2_meet 2 = .ok (.invokevirtual 38, 3) := by decide +kernel
theorem dX2_meet_5 : decode cX2_meet 5 = .ok (.astore 4, 2) := by decide +kernel
theorem dX2_meet_7 : decode cX2_meet 7 = .ok (.aload 4, 2) := by decide +kernel
theorem dX2_meet_9 : decode cX2_meet 9 = .ok (.ifnull 21, 3) := by decide +kernel
theorem dX2_meet_12 : decode cX2_meet 12 = .ok (.aload 4, 2) := by decide +kernel
theorem dX2_meet_14 : decode cX2_meet 14 = .ok (.iload_n 2, 1) := by decide +kernel
theorem dX2_meet_15 : decode cX2_meet 15 = .ok (.invokestatic 146, 3) := by decide +kernel
theorem dX2_meet_18 : decode cX2_meet 18 = .ok (.ifCond .eq 12, 3) := by decide +kernel
theorem dX2_meet_21 : decode cX2_meet 21 = .ok (.aload 4, 2) := by decide +kernel
theorem dX2_meet_23 : decode cX2_meet 23 = .ok (.iload_n 3, 1) := by decide +kernel
theorem dX2_meet_24 : decode cX2_meet 24 = .ok (.invokestatic 146, 3) := by decide +kernel
theorem dX2_meet_27 : decode cX2_meet 27 = .ok (.ifCond .ne 5, 3) := by decide +kernel
theorem dX2_meet_30 : decode cX2_meet 30 = .ok (.iconst (-1), 1) := by decide +kernel
theorem dX2_meet_31 : decode cX2_meet 31 = .ok (.ireturn, 1) := by decide +kernel
theorem dX2_meet_32 : decode cX2_meet 32 = .ok (.iload_n 2, 1) := by decide +kernel
theorem dX2_meet_33 : decode cX2_meet 33 = .ok (.iload_n 3, 1) := by decide +kernel
theorem dX2_meet_34 : decode cX2_meet 34 = .ok (.if_icmp .ne 6, 3) := by decide +kernel
theorem dX2_meet_37 : decode cX2_meet 37 = .ok (.bipush (-3), 2) := by decide +kernel
theorem dX2_meet_39 : decode cX2_meet 39 = .ok (.ireturn, 1) := by decide +kernel
theorem dX2_meet_40 : decode cX2_meet 40 = .ok (.aload 4, 2) := by decide +kernel
theorem dX2_meet_42 : decode cX2_meet 42 = .ok (.iload_n 2, 1) := by decide +kernel
theorem dX2_meet_43 : decode cX2_meet 43 = .ok (.iload_n 3, 1) := by decide +kernel
theorem dX2_meet_44 : decode cX2_meet 44 = .ok (.invokestatic 155, 3) := by decide +kernel
theorem dX2_meet_47 : decode cX2_meet 47 = .ok (.iload_n 2, 1) := by decide +kernel
theorem dX2_meet_48 : decode cX2_meet 48 = .ok (.iload_n 3, 1) := by decide +kernel
theorem dX2_meet_49 : decode cX2_meet 49 = .ok (.invokestatic 160, 3) := by decide +kernel
theorem dX2_meet_52 : decode cX2_meet 52 = .ok (.invokestatic 167, 3) := by decide +kernel
theorem dX2_meet_55 : decode cX2_meet 55 = .ok (.ireturn, 1) := by decide +kernel
set_option maxRecDepth 20000 in
theorem ggX2_bad_X2_worldIn : GoodIn wsX2_bad wsX2_worldIn := goodIn_r _ [5, 6, 32, 33, 34, 35, 36, 37, 38] (by decide +kernel) (by decide +kernel)
set_option maxRecDepth 20000 in
theorem gX2_bad_X2_worldIn : GoodIn wsX2_bad (wsV RX2 38 RX2 yX2_worldIn wsX2_worldIn) := goodIn_app (goodIn_of _ (by decide +kernel)) ggX2_bad_X2_worldIn
set_option maxRecDepth 20000 in
theorem ggX2_bad_X0_countBadPairs : GoodIn wsX2_bad wsX0_countBadPairs := goodIn_r _ [10, 11, 12, 13, 14, 15, 16, 17, 18, 19, 20, 21, 22, 23, 24, 25, 26, 27, 28, 29, 30, 9, 31, 39, 40, 41, 42] (by decide +kernel) (by decide +kernel)
set_option maxRecDepth 20000 in
theorem gX2_bad_X0_countBadPairs : GoodIn wsX2_bad (va_wsS RX2 170 yX0_countBadPairs wsX0_countBadPairs) := goodIn_app (goodIn_of _ (by decide +kernel)) ggX2_bad_X0_countBadPairs
theorem dX2_bad_0 : decode cX2_bad 0 = .ok (.aload_n 0, 1) := by decide +kernel
theorem dX2_bad_1 : decode cX2_bad 1 = .ok (.iload_n 1, 1) := by decide +kernel
theorem dX2_bad_2 : decode cX2_bad 2 = .ok (.invokevirtual 38, 3) := by decide +kernel
theorem dX2_bad_5 : decode cX2_bad 5 = .ok (.astore_n 2, 1) := by decide +kernel
theorem dX2_bad_6 : decode cX2_bad 6 = .ok (.aload_n 2, 1) := by decide +kernel
theorem dX2_bad_7 : decode cX2_bad 7 = .ok (.ifnonnull 5, 3) := by decide +kernel
theorem dX2_bad_10 : decode cX2_bad 10 = .ok (.iconst (-1), 1) := by decide +kernel
theorem dX2_bad_11 : decode cX2_bad 11 = .ok (.ireturn, 1) := by decide +kernel
theorem dX2_bad_12 : decode cX2_bad 12 = .ok (.aload_n 2, 1) := by decide +kernel
theorem dX2_bad_13 : decode cX2_bad 13 = .ok (.invokestatic 170, 3) := by decide +kernel
theorem dX2_bad_16 : decode cX2_bad 16 = .ok (.ireturn, 1) := by decide +kernel
set_option maxRecDepth 20000 in
theorem ggX2_rank_X2_worldIn : GoodIn wsX2_rank wsX2_worldIn := goodIn_r _ [5, 6, 33, 34, 35, 36, 37, 38, 39] (by decide +kernel) (by decide +kernel)
set_option maxRecDepth 20000 in
theorem gX2_rank_X2_worldIn : GoodIn wsX2_rank (wsV RX2 38 RX2 yX2_worldIn wsX2_worldIn) := goodIn_app (goodIn_of _ (by decide +kernel)) ggX2_rank_X2_worldIn
set_option maxRecDepth 20000 in
theorem ggX2_rank_X1_has : GoodIn wsX2_rank wsX1_has := goodIn_r _ [11, 12, 40, 41, 42, 43] (by decide +kernel) (by decide +kernel)
set_option maxRecDepth 20000 in
theorem gX2_rank_X1_has : GoodIn wsX2_rank (wsV RX2 58 RX1 yX1_has wsX1_has) := goodIn_app (goodIn_of _ (by decide +kernel)) ggX2_rank_X1_has
set_option maxRecDepth 20000 in
theorem ggX2_rank_X1_rankOf : GoodIn wsX2_rank wsX1_rankOf := goodIn_r _ [16, 12, 17, 18, 19, 20, 10, 21, 22, 23, 24, 25, 26, 27, 28, 29, 30, 31, 32, 40, 41, 42, 43] (by decide +kernel) (by decide +kernel)
set_option maxRecDepth 20000 in
theorem gX2_rank_X1_rankOf : GoodIn wsX2_rank (wsV RX2 174 RX1 yX1_rankOf wsX1_rankOf) := goodIn_app (goodIn_of _ (by decide +kernel)) ggX2_rank_X1_rankOf
theorem dX2_rank_0 : decode cX2_rank 0 = .ok (.aload_n 0, 1) := by decide +kernel
theorem dX2_rank_1 : decode cX2_rank 1 = .ok (.iload_n 1, 1) := by decide +kernel
theorem dX2_rank_2 : decode cX2_rank 2 = .ok (.invokevirtual 38, 3) := by decide +kernel
theorem dX2_rank_5 : decode cX2_rank 5 = .ok (.astore_n 3, 1) := by decide +kernel
theorem dX2_rank_6 : decode cX2_rank 6 = .ok (.aload_n 3, 1) := by decide +kernel
theorem dX2_rank_7 : decode cX2_rank 7 = .ok (.ifnull 11, 3) := by decide +kernel
theorem dX2_rank_10 : decode cX2_rank 10 = .ok (.aload_n 3, 1) := by decide +kernel
theorem dX2_rank_11 : decode cX2_rank 11 = .ok (.iload_n 2, 1) := by decide +kernel
theorem dX2_rank_12 : decode cX2_rank 12 = .ok (.invokevirtual 58, 3) := by decide +kernel
theorem dX2_rank_15 : decode cX2_rank 15 = .ok (.ifCond .ne 5, 3) := by decide +kernel
theorem dX2_rank_18 : decode cX2_rank 18 = .ok (.iconst (-1), 1) := by decide +kernel
theorem dX2_rank_19 : decode cX2_rank 19 = .ok (.ireturn, 1) := by decide +kernel
theorem dX2_rank_20 : decode cX2_rank 20 = .ok (.aload_n 3, 1) := by decide +kernel
theorem dX2_rank_21 : decode cX2_rank 21 = .ok (.iload_n 2, 1) := by decide +kernel
theorem dX2_rank_22 : decode cX2_rank 22 = .ok (.invokevirtual 174, 3) := by decide +kernel
theorem dX2_rank_25 : decode cX2_rank 25 = .ok (.ireturn, 1) := by decide +kernel
set_option maxRecDepth 20000 in
theorem ggX2_ranks_X2_worldIn : GoodIn wsX2_ranks wsX2_worldIn := goodIn_r _ [5, 6, 33, 34, 35, 36, 37, 38, 39] (by decide +kernel) (by decide +kernel)
set_option maxRecDepth 20000 in
theorem gX2_ranks_X2_worldIn : GoodIn wsX2_ranks (wsV RX2 38 RX2 yX2_worldIn wsX2_worldIn) := goodIn_app (goodIn_of _ (by decide +kernel)) ggX2_ranks_X2_worldIn
set_option maxRecDepth 20000 in
theorem ggX2_ranks_X1_size : GoodIn wsX2_ranks wsX1_size := goodIn_r _ [11, 12, 40, 41, 42, 43] (by decide +kernel) (by decide +kernel)
set_option maxRecDepth 20000 in
theorem gX2_ranks_X1_size : GoodIn wsX2_ranks (wsV RX2 54 RX1 yX1_size wsX1_size) := goodIn_app (goodIn_of _ (by decide +kernel)) ggX2_ranks_X1_size
set_option maxRecDepth 20000 in
theorem ggX2_ranks_X1_rankOf : GoodIn wsX2_ranks wsX1_rankOf := goodIn_r _ [16, 12, 17, 18, 19, 20, 10, 21, 22, 23, 24, 25, 26, 27, 28, 29, 30, 31, 32, 40, 41, 42, 43] (by decide +kernel) (by decide +kernel)
set_option maxRecDepth 20000 in
theorem gX2_ranks_X1_rankOf : GoodIn wsX2_ranks (wsV RX2 174 RX1 yX1_rankOf wsX1_rankOf) := goodIn_app (goodIn_of _ (by decide +kernel)) ggX2_ranks_X1_rankOf
theorem dX2_ranks_0 : decode cX2_ranks 0 = .ok (.aload_n 0, 1) := by decide +kernel
theorem dX2_ranks_1 : decode cX2_ranks 1 = .ok (.iload_n 1, 1) := by decide +kernel
theorem dX2_ranks_2 : decode cX2_ranks 2 = .ok (.invokevirtual 38, 3) := by decide +kernel
theorem dX2_ranks_5 : decode cX2_ranks 5 = .ok (.astore_n 3, 1) := by decide +kernel
theorem dX2_ranks_6 : decode cX2_ranks 6 = .ok (.aload_n 3, 1) := by decide +kernel
theorem dX2_ranks_7 : decode cX2_ranks 7 = .ok (.ifnonnull 5, 3) := by decide +kernel
theorem dX2_ranks_10 : decode cX2_ranks 10 = .ok (.iconst (-1), 1) := by decide +kernel
theorem dX2_ranks_11 : decode cX2_ranks 11 = .ok (.ireturn, 1) := by decide +kernel
theorem dX2_ranks_12 : decode cX2_ranks 12 = .ok (.iload_n 2, 1) := by decide +kernel
theorem dX2_ranks_13 : decode cX2_ranks 13 = .ok (.ifCond .lt 8, 3) := by decide +kernel
theorem dX2_ranks_16 : decode cX2_ranks 16 = .ok (.iload_n 2, 1) := by decide +kernel
theorem dX2_ranks_17 : decode cX2_ranks 17 = .ok (.iconst 4, 1) := by decide +kernel
theorem dX2_ranks_18 : decode cX2_ranks 18 = .ok (.if_icmp .le 6, 3) := by decide +kernel
theorem dX2_ranks_21 : decode cX2_ranks 21 = .ok (.bipush (-2), 2) := by decide +kernel
theorem dX2_ranks_23 : decode cX2_ranks 23 = .ok (.ireturn, 1) := by decide +kernel
theorem dX2_ranks_24 : decode cX2_ranks 24 = .ok (.iconst 0, 1) := by decide +kernel
theorem dX2_ranks_25 : decode cX2_ranks 25 = .ok (.istore 4, 2) := by decide +kernel
theorem dX2_ranks_27 : decode cX2_ranks 27 = .ok (.iconst 0, 1) := by decide +kernel
theorem dX2_ranks_28 : decode cX2_ranks 28 = .ok (.istore 5, 2) := by decide +kernel
theorem dX2_ranks_30 : decode cX2_ranks 30 = .ok (.iload 5, 2) := by decide +kernel
theorem dX2_ranks_32 : decode cX2_ranks 32 = .ok (.aload_n 3, 1) := by decide +kernel
theorem dX2_ranks_33 : decode cX2_ranks 33 = .ok (.invokevirtual 54, 3) := by decide +kernel
theorem dX2_ranks_36 : decode cX2_ranks 36 = .ok (.if_icmp .ge 22, 3) := by decide +kernel
theorem dX2_ranks_39 : decode cX2_ranks 39 = .ok (.aload_n 3, 1) := by decide +kernel
theorem dX2_ranks_40 : decode cX2_ranks 40 = .ok (.iload 5, 2) := by decide +kernel
theorem dX2_ranks_42 : decode cX2_ranks 42 = .ok (.invokevirtual 174, 3) := by decide +kernel
theorem dX2_ranks_45 : decode cX2_ranks 45 = .ok (.iload_n 2, 1) := by decide +kernel
theorem dX2_ranks_46 : decode cX2_ranks 46 = .ok (.if_icmp .ne 6, 3) := by decide +kernel
theorem dX2_ranks_49 : decode cX2_ranks 49 = .ok (.iinc 4 1, 3) := by decide +kernel
theorem dX2_ranks_52 : decode cX2_ranks 52 = .ok (.iinc 5 1, 3) := by decide +kernel
theorem dX2_ranks_55 : decode cX2_ranks 55 = .ok (.goto (-25), 3) := by decide +kernel
theorem dX2_ranks_58 : decode cX2_ranks 58 = .ok (.iload 4, 2) := by decide +kernel
theorem dX2_ranks_60 : decode cX2_ranks 60 = .ok (.ireturn, 1) := by decide +kernel
set_option maxRecDepth 20000 in
theorem ggX2_cubes_X2_readCells : GoodIn wsX2_cubes wsX2_readCells := goodIn_r _ [7, 2, 8, 9, 6, 10, 51, 52, 53, 54, 55, 56, 57] (by decide +kernel) (by decide +kernel)
set_option maxRecDepth 20000 in
theorem gX2_cubes_X2_readCells : GoodIn wsX2_cubes (wsV RX2 177 RX2 yX2_readCells wsX2_readCells) := goodIn_app (goodIn_of _ (by decide +kernel)) ggX2_cubes_X2_readCells
set_option maxRecDepth 20000 in
theorem ggX2_cubes_X1_take : GoodIn wsX2_cubes wsX1_take := goodIn_r _ [15, 16, 17, 18, 19, 20, 21, 14, 22, 23, 24, 25, 26, 27, 28, 29, 30, 31, 32, 33, 34, 9, 6, 10, 58, 59, 60, 61] (by decide +kernel) (by decide +kernel)
set_option maxRecDepth 20000 in
theorem gX2_cubes_X1_take : GoodIn wsX2_cubes (wsV RX2 50 RX1 yX1_take wsX1_take) := goodIn_app (goodIn_of _ (by decide +kernel)) ggX2_cubes_X1_take
set_option maxRecDepth 20000 in
theorem ggX2_cubes_X1_isWhole : GoodIn wsX2_cubes wsX1_isWhole := goodIn_r _ [38, 39, 40, 41, 14, 42, 17, 43, 44, 45, 46, 47, 48, 49, 50, 23, 24, 25, 26, 58, 59, 60, 61] (by decide +kernel) (by decide +kernel)
set_option maxRecDepth 20000 in
theorem gX2_cubes_X1_isWhole : GoodIn wsX2_cubes (wsV RX2 77 RX1 yX1_isWhole wsX1_isWhole) := goodIn_app (goodIn_of _ (by decide +kernel)) ggX2_cubes_X1_isWhole
theorem dX2_cubes_0 : decode cX2_cubes 0 = .ok (.iload_n 1, 1) := by decide +kernel
theorem dX2_cubes_1 : decode cX2_cubes 1 = .ok (.iconst 1, 1) := by decide +kernel
theorem dX2_cubes_2 : decode cX2_cubes 2 = .ok (.if_icmp .lt 8, 3) := by decide +kernel
theorem dX2_cubes_5 : decode cX2_cubes 5 = .ok (.iload_n 1, 1) := by decide +kernel
theorem dX2_cubes_6 : decode cX2_cubes 6 = .ok (.iconst 2, 1) := by decide +kernel
theorem dX2_cubes_7 : decode cX2_cubes 7 = .ok (.if_icmp .le 6, 3) := by decide +kernel
theorem dX2_cubes_10 : decode cX2_cubes 10 = .ok (.bipush (-2), 2) := by decide +kernel
theorem dX2_cubes_12 : decode cX2_cubes 12 = .ok (.ireturn, 1) := by decide +kernel
theorem dX2_cubes_13 : decode cX2_cubes 13 = .ok (.iload_n 1, 1) := by decide +kernel
theorem dX2_cubes_14 : decode cX2_cubes 14 = .ok (.iload_n 1, 1) := by decide +kernel
theorem dX2_cubes_15 : decode cX2_cubes 15 = .ok (.imul, 1) := by decide +kernel
theorem dX2_cubes_16 : decode cX2_cubes 16 = .ok (.iload_n 1, 1) := by decide +kernel
theorem dX2_cubes_17 : decode cX2_cubes 17 = .ok (.imul, 1) := by decide +kernel
theorem dX2_cubes_18 : decode cX2_cubes 18 = .ok (.istore_n 2, 1) := by decide +kernel
theorem dX2_cubes_19 : decode cX2_cubes 19 = .ok (.iconst 0, 1) := by decide +kernel
theorem dX2_cubes_20 : decode cX2_cubes 20 = .ok (.istore_n 3, 1) := by decide +kernel
theorem dX2_cubes_21 : decode cX2_cubes 21 = .ok (.iconst 0, 1) := by decide +kernel
theorem dX2_cubes_22 : decode cX2_cubes 22 = .ok (.istore 4, 2) := by decide +kernel
theorem dX2_cubes_24 : decode cX2_cubes 24 = .ok (.iload 4, 2) := by decide +kernel
theorem dX2_cubes_26 : decode cX2_cubes 26 = .ok (.iconst 1, 1) := by decide +kernel
theorem dX2_cubes_27 : decode cX2_cubes 27 = .ok (.iload_n 2, 1) := by decide +kernel
theorem dX2_cubes_28 : decode cX2_cubes 28 = .ok (.ishl, 1) := by decide +kernel
theorem dX2_cubes_29 : decode cX2_cubes 29 = .ok (.if_icmp .ge 41, 3) := by decide +kernel
theorem dX2_cubes_32 : decode cX2_cubes 32 = .ok (.aload_n 0, 1) := by decide +kernel
theorem dX2_cubes_33 : decode cX2_cubes 33 = .ok (.iload 4, 2) := by decide +kernel
theorem dX2_cubes_35 : decode cX2_cubes 35 = .ok (.iload_n 1, 1) := by decide +kernel
theorem dX2_cubes_36 : decode cX2_cubes 36 = .ok (.invokevirtual 177, 3) := by decide +kernel
theorem dX2_cubes_39 : decode cX2_cubes 39 = .ok (.aload_n 0, 1) := by decide +kernel
theorem dX2_cubes_40 : decode cX2_cubes 40 = .ok (.getfield 21, 3) := by decide +kernel
theorem dX2_cubes_43 : decode cX2_cubes 43 = .ok (.iload_n 1, 1) := by decide +kernel
theorem dX2_cubes_44 : decode cX2_cubes 44 = .ok (.aload_n 0, 1) := by decide +kernel
theorem dX2_cubes_45 : decode cX2_cubes 45 = .ok (.getfield 25, 3) := by decide +kernel
theorem dX2_cubes_48 : decode cX2_cubes 48 = .ok (.invokevirtual 50, 3) := by decide +kernel
theorem dX2_cubes_51 : decode cX2_cubes 51 = .ok (.aload_n 0, 1) := by decide +kernel
theorem dX2_cubes_52 : decode cX2_cubes 52 = .ok (.getfield 21, 3) := by decide +kernel
theorem dX2_cubes_55 : decode cX2_cubes 55 = .ok (.invokevirtual 77, 3) := by decide +kernel
theorem dX2_cubes_58 : decode cX2_cubes 58 = .ok (.ifCond .eq 6, 3) := by decide +kernel
theorem dX2_cubes_61 : decode cX2_cubes 61 = .ok (.iinc 3 1, 3) := by decide +kernel
theorem dX2_cubes_64 : decode cX2_cubes 64 = .ok (.iinc 4 1, 3) := by decide +kernel
theorem dX2_cubes_67 : decode cX2_cubes 67 = .ok (.goto (-43), 3) := by decide +kernel
theorem dX2_cubes_70 : decode cX2_cubes 70 = .ok (.iload_n 3, 1) := by decide +kernel
theorem dX2_cubes_71 : decode cX2_cubes 71 = .ok (.ireturn, 1) := by decide +kernel
theorem dX2_worldIn_0 : decode cX2_worldIn 0 = .ok (.iload_n 1, 1) := by decide +kernel
theorem dX2_worldIn_1 : decode cX2_worldIn 1 = .ok (.ifCond .lt 21, 3) := by decide +kernel
theorem dX2_worldIn_4 : decode cX2_worldIn 4 = .ok (.iload_n 1, 1) := by decide +kernel
theorem dX2_worldIn_5 : decode cX2_worldIn 5 = .ok (.aload_n 0, 1) := by decide +kernel
theorem dX2_worldIn_6 : decode cX2_worldIn 6 = .ok (.getfield 11, 3) := by decide +kernel
theorem dX2_worldIn_9 : decode cX2_worldIn 9 = .ok (.arraylength, 1) := by decide +kernel
theorem dX2_worldIn_10 : decode cX2_worldIn 10 = .ok (.if_icmp .ge 12, 3) := by decide +kernel
theorem dX2_worldIn_13 : decode cX2_worldIn 13 = .ok (.aload_n 0, 1) := by decide +kernel
theorem dX2_worldIn_14 : decode cX2_worldIn 14 = .ok (.getfield 11, 3) := by decide +kernel
theorem dX2_worldIn_17 : decode cX2_worldIn 17 = .ok (.iload_n 1, 1) := by decide +kernel
theorem dX2_worldIn_18 : decode cX2_worldIn 18 = .ok (.aaload, 1) := by decide +kernel
theorem dX2_worldIn_19 : decode cX2_worldIn 19 = .ok (.goto 4, 3) := by decide +kernel
theorem dX2_worldIn_22 : decode cX2_worldIn 22 = .ok (.aconst_null, 1) := by decide +kernel
theorem dX2_worldIn_23 : decode cX2_worldIn 23 = .ok (.areturn, 1) := by decide +kernel
theorem dX2_mapAt_0 : decode cX2_mapAt 0 = .ok (.iload_n 1, 1) := by decide +kernel
theorem dX2_mapAt_1 : decode cX2_mapAt 1 = .ok (.ifCond .lt 21, 3) := by decide +kernel
theorem dX2_mapAt_4 : decode cX2_mapAt 4 = .ok (.iload_n 1, 1) := by decide +kernel
theorem dX2_mapAt_5 : decode cX2_mapAt 5 = .ok (.aload_n 0, 1) := by decide +kernel
theorem dX2_mapAt_6 : decode cX2_mapAt 6 = .ok (.getfield 17, 3) := by decide +kernel
theorem dX2_mapAt_9 : decode cX2_mapAt 9 = .ok (.arraylength, 1) := by decide +kernel
theorem dX2_mapAt_10 : decode cX2_mapAt 10 = .ok (.if_icmp .ge 12, 3) := by decide +kernel
theorem dX2_mapAt_13 : decode cX2_mapAt 13 = .ok (.aload_n 0, 1) := by decide +kernel
theorem dX2_mapAt_14 : decode cX2_mapAt 14 = .ok (.getfield 17, 3) := by decide +kernel
theorem dX2_mapAt_17 : decode cX2_mapAt 17 = .ok (.iload_n 1, 1) := by decide +kernel
theorem dX2_mapAt_18 : decode cX2_mapAt 18 = .ok (.aaload, 1) := by decide +kernel
theorem dX2_mapAt_19 : decode cX2_mapAt 19 = .ok (.goto 4, 3) := by decide +kernel
theorem dX2_mapAt_22 : decode cX2_mapAt 22 = .ok (.aconst_null, 1) := by decide +kernel
theorem dX2_mapAt_23 : decode cX2_mapAt 23 = .ok (.areturn, 1) := by decide +kernel
theorem dX2_isSomeN_0 : decode cX2_isSomeN 0 = .ok (.iload_n 0, 1) := by decide +kernel
theorem dX2_isSomeN_1 : decode cX2_isSomeN 1 = .ok (.iconst 1, 1) := by decide +kernel
theorem dX2_isSomeN_2 : decode cX2_isSomeN 2 = .ok (.if_icmp .lt 12, 3) := by decide +kernel
theorem dX2_isSomeN_5 : decode cX2_isSomeN 5 = .ok (.iload_n 0, 1) := by decide +kernel
theorem dX2_isSomeN_6 : decode cX2_isSomeN 6 = .ok (.iconst 4, 1) := by decide +kernel
theorem dX2_isSomeN_7 : decode cX2_isSomeN 7 = .ok (.if_icmp .gt 7, 3) := by decide +kernel
theorem dX2_isSomeN_10 : decode cX2_isSomeN 10 = .ok (.iconst 1, 1) := by decide +kernel
theorem dX2_isSomeN_11 : decode cX2_isSomeN 11 = .ok (.goto 4, 3) := by decide +kernel
theorem dX2_isSomeN_14 : decode cX2_isSomeN 14 = .ok (.iconst 0, 1) := by decide +kernel
theorem dX2_isSomeN_15 : decode cX2_isSomeN 15 = .ok (.ireturn, 1) := by decide +kernel
theorem dX2_isSomeWay_0 : decode cX2_isSomeWay 0 = .ok (.iload_n 0, 1) := by decide +kernel
theorem dX2_isSomeWay_1 : decode cX2_isSomeWay 1 = .ok (.ifCond .lt 12, 3) := by decide +kernel
theorem dX2_isSomeWay_4 : decode cX2_isSomeWay 4 = .ok (.iload_n 0, 1) := by decide +kernel
theorem dX2_isSomeWay_5 : decode cX2_isSomeWay 5 = .ok (.iconst 3, 1) := by decide +kernel
theorem dX2_isSomeWay_6 : decode cX2_isSomeWay 6 = .ok (.if_icmp .gt 7, 3) := by decide +kernel
theorem dX2_isSomeWay_9 : decode cX2_isSomeWay 9 = .ok (.iconst 1, 1) := by decide +kernel
theorem dX2_isSomeWay_10 : decode cX2_isSomeWay 10 = .ok (.goto 4, 3) := by decide +kernel
theorem dX2_isSomeWay_13 : decode cX2_isSomeWay 13 = .ok (.iconst 0, 1) := by decide +kernel
theorem dX2_isSomeWay_14 : decode cX2_isSomeWay 14 = .ok (.ireturn, 1) := by decide +kernel
theorem dX2_isMapNumber_0 : decode cX2_isMapNumber 0 = .ok (.iload_n 0, 1) := by decide +kernel
theorem dX2_isMapNumber_1 : decode cX2_isMapNumber 1 = .ok (.ifCond .lt 13, 3) := by decide +kernel
theorem dX2_isMapNumber_4 : decode cX2_isMapNumber 4 = .ok (.iload_n 0, 1) := by decide +kernel
theorem dX2_isMapNumber_5 : decode cX2_isMapNumber 5 = .ok (.bipush 16, 2) := by decide +kernel
theorem dX2_isMapNumber_7 : decode cX2_isMapNumber 7 = .ok (.if_icmp .ge 7, 3) := by decide +kernel
theorem dX2_isMapNumber_10 : decode cX2_isMapNumber 10 = .ok (.iconst 1, 1) := by decide +kernel
theorem dX2_isMapNumber_11 : decode cX2_isMapNumber 11 = .ok (.goto 4, 3) := by decide +kernel
theorem dX2_isMapNumber_14 : decode cX2_isMapNumber 14 = .ok (.iconst 0, 1) := by decide +kernel
theorem dX2_isMapNumber_15 : decode cX2_isMapNumber 15 = .ok (.ireturn, 1) := by decide +kernel
theorem dX2_oneIf_0 : decode cX2_oneIf 0 = .ok (.iload_n 0, 1) := by decide +kernel
theorem dX2_oneIf_1 : decode cX2_oneIf 1 = .ok (.ifCond .eq 7, 3) := by decide +kernel
theorem dX2_oneIf_4 : decode cX2_oneIf 4 = .ok (.iconst 1, 1) := by decide +kernel
theorem dX2_oneIf_5 : decode cX2_oneIf 5 = .ok (.goto 4, 3) := by decide +kernel
theorem dX2_oneIf_8 : decode cX2_oneIf 8 = .ok (.iconst 0, 1) := by decide +kernel
theorem dX2_oneIf_9 : decode cX2_oneIf 9 = .ok (.ireturn, 1) := by decide +kernel
theorem dX2_cellIndex_0 : decode cX2_cellIndex 0 = .ok (.iload_n 0, 1) := by decide +kernel
theorem dX2_cellIndex_1 : decode cX2_cellIndex 1 = .ok (.iconst 3, 1) := by decide +kernel
theorem dX2_cellIndex_2 : decode cX2_cellIndex 2 = .ok (.iand, 1) := by decide +kernel
theorem dX2_cellIndex_3 : decode cX2_cellIndex 3 = .ok (.iconst 2, 1) := by decide +kernel
theorem dX2_cellIndex_4 : decode cX2_cellIndex 4 = .ok (.ishl, 1) := by decide +kernel
theorem dX2_cellIndex_5 : decode cX2_cellIndex 5 = .ok (.iload_n 1, 1) := by decide +kernel
theorem dX2_cellIndex_6 : decode cX2_cellIndex 6 = .ok (.iconst 3, 1) := by decide +kernel
theorem dX2_cellIndex_7 : decode cX2_cellIndex 7 = .ok (.iand, 1) := by decide +kernel
theorem dX2_cellIndex_8 : decode cX2_cellIndex 8 = .ok (.ior, 1) := by decide +kernel
theorem dX2_cellIndex_9 : decode cX2_cellIndex 9 = .ok (.ireturn, 1) := by decide +kernel
theorem dX2_reduced_0 : decode cX2_reduced 0 = .ok (.iload_n 1, 1) := by decide +kernel
theorem dX2_reduced_1 : decode cX2_reduced 1 = .ok (.ifCond .lt 19, 3) := by decide +kernel
theorem dX2_reduced_4 : decode cX2_reduced 4 = .ok (.iload_n 1, 1) := by decide +kernel
theorem dX2_reduced_5 : decode cX2_reduced 5 = .ok (.getstatic 181, 3) := by decide +kernel
theorem dX2_reduced_8 : decode cX2_reduced 8 = .ok (.arraylength, 1) := by decide +kernel
theorem dX2_reduced_9 : decode cX2_reduced 9 = .ok (.if_icmp .ge 11, 3) := by decide +kernel
theorem dX2_reduced_12 : decode cX2_reduced 12 = .ok (.getstatic 181, 3) := by decide +kernel
theorem dX2_reduced_15 : decode cX2_reduced 15 = .ok (.iload_n 1, 1) := by decide +kernel
theorem dX2_reduced_16 : decode cX2_reduced 16 = .ok (.iaload, 1) := by decide +kernel
theorem dX2_reduced_17 : decode cX2_reduced 17 = .ok (.goto 4, 3) := by decide +kernel
theorem dX2_reduced_20 : decode cX2_reduced 20 = .ok (.iconst 0, 1) := by decide +kernel
theorem dX2_reduced_21 : decode cX2_reduced 21 = .ok (.istore_n 2, 1) := by decide +kernel
theorem dX2_reduced_22 : decode cX2_reduced 22 = .ok (.iload_n 0, 1) := by decide +kernel
theorem dX2_reduced_23 : decode cX2_reduced 23 = .ok (.istore_n 3, 1) := by decide +kernel
theorem dX2_reduced_24 : decode cX2_reduced 24 = .ok (.iconst 2, 1) := by decide +kernel
theorem dX2_reduced_25 : decode cX2_reduced 25 = .ok (.iload_n 1, 1) := by decide +kernel
theorem dX2_reduced_26 : decode cX2_reduced 26 = .ok (.imul, 1) := by decide +kernel
theorem dX2_reduced_27 : decode cX2_reduced 27 = .ok (.iconst 2, 1) := by decide +kernel
theorem dX2_reduced_28 : decode cX2_reduced 28 = .ok (.isub, 1) := by decide +kernel
theorem dX2_reduced_29 : decode cX2_reduced 29 = .ok (.istore 4, 2) := by decide +kernel
theorem dX2_reduced_31 : decode cX2_reduced 31 = .ok (.iload 4, 2) := by decide +kernel
theorem dX2_reduced_33 : decode cX2_reduced 33 = .ok (.iload_n 1, 1) := by decide +kernel
theorem dX2_reduced_34 : decode cX2_reduced 34 = .ok (.if_icmp .lt 28, 3) := by decide +kernel
theorem dX2_reduced_37 : decode cX2_reduced 37 = .ok (.iload_n 3, 1) := by decide +kernel
theorem dX2_reduced_38 : decode cX2_reduced 38 = .ok (.iload 4, 2) := by decide +kernel
theorem dX2_reduced_40 : decode cX2_reduced 40 = .ok (.ishr, 1) := by decide +kernel
theorem dX2_reduced_41 : decode cX2_reduced 41 = .ok (.iconst 1, 1) := by decide +kernel
theorem dX2_reduced_42 : decode cX2_reduced 42 = .ok (.iand, 1) := by decide +kernel
theorem dX2_reduced_43 : decode cX2_reduced 43 = .ok (.iconst 1, 1) := by decide +kernel
theorem dX2_reduced_44 : decode cX2_reduced 44 = .ok (.if_icmp .ne 12, 3) := by decide +kernel
theorem dX2_reduced_47 : decode cX2_reduced 47 = .ok (.iload_n 3, 1) := by decide +kernel
theorem dX2_reduced_48 : decode cX2_reduced 48 = .ok (.iload_n 2, 1) := by decide +kernel
theorem dX2_reduced_49 : decode cX2_reduced 49 = .ok (.iload 4, 2) := by decide +kernel
theorem dX2_reduced_51 : decode cX2_reduced 51 = .ok (.iload_n 1, 1) := by decide +kernel
theorem dX2_reduced_52 : decode cX2_reduced 52 = .ok (.isub, 1) := by decide +kernel
theorem dX2_reduced_53 : decode cX2_reduced 53 = .ok (.ishl, 1) := by decide +kernel
theorem dX2_reduced_54 : decode cX2_reduced 54 = .ok (.ixor, 1) := by decide +kernel
theorem dX2_reduced_55 : decode cX2_reduced 55 = .ok (.istore_n 3, 1) := by decide +kernel
theorem dX2_reduced_56 : decode cX2_reduced 56 = .ok (.iinc 4 (-1), 3) := by decide +kernel
theorem dX2_reduced_59 : decode cX2_reduced 59 = .ok (.goto (-28), 3) := by decide +kernel
theorem dX2_reduced_62 : decode cX2_reduced 62 = .ok (.iload_n 3, 1) := by decide +kernel
theorem dX2_reduced_63 : decode cX2_reduced 63 = .ok (.ireturn, 1) := by decide +kernel
set_option maxRecDepth 20000 in
theorem ggX2_turnedCell_X1_bits : GoodIn wsX2_turnedCell wsX1_bits := goodIn_r _ [5, 6, 22, 23, 24, 25] (by decide +kernel) (by decide +kernel)
set_option maxRecDepth 20000 in
theorem gX2_turnedCell_X1_bits : GoodIn wsX2_turnedCell (wsV RX2 99 RX1 yX1_bits wsX1_bits) := goodIn_app (goodIn_of _ (by decide +kernel)) ggX2_turnedCell_X1_bits
set_option maxRecDepth 20000 in
theorem ggX2_turnedCell_X2_turnedBit : GoodIn wsX2_turnedCell wsX2_turnedBit := goodIn_r _ [10, 11, 12, 13, 4, 14, 15, 16, 17, 18, 19, 20, 9, 21, 22, 23, 24, 25] (by decide +kernel) (by decide +kernel)
set_option maxRecDepth 20000 in
theorem gX2_turnedCell_X2_turnedBit : GoodIn wsX2_turnedCell (va_wsS RX2 184 yX2_turnedBit wsX2_turnedBit) := goodIn_app (goodIn_of _ (by decide +kernel)) ggX2_turnedCell_X2_turnedBit
theorem dX2_turnedCell_0 : decode cX2_turnedCell 0 = .ok (.iconst 0, 1) := by decide +kernel
theorem dX2_turnedCell_1 : decode cX2_turnedCell 1 = .ok (.istore 4, 2) := by decide +kernel
theorem dX2_turnedCell_3 : decode cX2_turnedCell 3 = .ok (.iconst 0, 1) := by decide +kernel
theorem dX2_turnedCell_4 : decode cX2_turnedCell 4 = .ok (.istore 5, 2) := by decide +kernel
theorem dX2_turnedCell_6 : decode cX2_turnedCell 6 = .ok (.iload 5, 2) := by decide +kernel
theorem dX2_turnedCell_8 : decode cX2_turnedCell 8 = .ok (.aload_n 0, 1) := by decide +kernel
theorem dX2_turnedCell_9 : decode cX2_turnedCell 9 = .ok (.invokevirtual 99, 3) := by decide +kernel
theorem dX2_turnedCell_12 : decode cX2_turnedCell 12 = .ok (.if_icmp .ge 26, 3) := by decide +kernel
theorem dX2_turnedCell_15 : decode cX2_turnedCell 15 = .ok (.iload 4, 2) := by decide +kernel
theorem dX2_turnedCell_17 : decode cX2_turnedCell 17 = .ok (.aload_n 0, 1) := by decide +kernel
theorem dX2_turnedCell_18 : decode cX2_turnedCell 18 = .ok (.iload_n 1, 1) := by decide +kernel
theorem dX2_turnedCell_19 : decode cX2_turnedCell 19 = .ok (.iload_n 2, 1) := by decide +kernel
theorem dX2_turnedCell_20 : decode cX2_turnedCell 20 = .ok (.iload 5, 2) := by decide +kernel
theorem dX2_turnedCell_22 : decode cX2_turnedCell 22 = .ok (.iload_n 3, 1) := by decide +kernel
theorem dX2_turnedCell_23 : decode cX2_turnedCell 23 = .ok (.invokestatic 184, 3) := by decide +kernel
theorem dX2_turnedCell_26 : decode cX2_turnedCell 26 = .ok (.iload 5, 2) := by decide +kernel
theorem dX2_turnedCell_28 : decode cX2_turnedCell 28 = .ok (.ishl, 1) := by decide +kernel
theorem dX2_turnedCell_29 : decode cX2_turnedCell 29 = .ok (.ior, 1) := by decide +kernel
theorem dX2_turnedCell_30 : decode cX2_turnedCell 30 = .ok (.istore 4, 2) := by decide +kernel
theorem dX2_turnedCell_32 : decode cX2_turnedCell 32 = .ok (.iinc 5 1, 3) := by decide +kernel
theorem dX2_turnedCell_35 : decode cX2_turnedCell 35 = .ok (.goto (-29), 3) := by decide +kernel
theorem dX2_turnedCell_38 : decode cX2_turnedCell 38 = .ok (.iload 4, 2) := by decide +kernel
theorem dX2_turnedCell_40 : decode cX2_turnedCell 40 = .ok (.ireturn, 1) := by decide +kernel
set_option maxRecDepth 20000 in
theorem ggX2_turnedBit_X1_cubeBit : GoodIn wsX2_turnedBit wsX1_cubeBit := goodIn_r _ [5, 6, 7, 8, 4, 9, 10, 11, 12, 13, 14, 15, 16, 17] (by decide +kernel) (by decide +kernel)
set_option maxRecDepth 20000 in
theorem gX2_turnedBit_X1_cubeBit : GoodIn wsX2_turnedBit (wsV RX2 188 RX1 yX1_cubeBit wsX1_cubeBit) := goodIn_app (goodIn_of _ (by decide +kernel)) ggX2_turnedBit_X1_cubeBit
theorem dX2_turnedBit_0 : decode cX2_turnedBit 0 = .ok (.iload 4, 2) := by decide +kernel
theorem dX2_turnedBit_2 : decode cX2_turnedBit 2 = .ok (.tableswitch 74 1 5 #[34, 42, 50, 58, 66], 34) := by decide +kernel
theorem dX2_turnedBit_36 : decode cX2_turnedBit 36 = .ok (.aload_n 0, 1) := by decide +kernel
theorem dX2_turnedBit_37 : decode cX2_turnedBit 37 = .ok (.iload_n 1, 1) := by decide +kernel
theorem dX2_turnedBit_38 : decode cX2_turnedBit 38 = .ok (.iload_n 3, 1) := by decide +kernel
theorem dX2_turnedBit_39 : decode cX2_turnedBit 39 = .ok (.iload_n 2, 1) := by decide +kernel
theorem dX2_turnedBit_40 : decode cX2_turnedBit 40 = .ok (.invokevirtual 188, 3) := by decide +kernel
theorem dX2_turnedBit_43 : decode cX2_turnedBit 43 = .ok (.ireturn, 1) := by decide +kernel
theorem dX2_turnedBit_44 : decode cX2_turnedBit 44 = .ok (.aload_n 0, 1) := by decide +kernel
theorem dX2_turnedBit_45 : decode cX2_turnedBit 45 = .ok (.iload_n 2, 1) := by decide +kernel
theorem dX2_turnedBit_46 : decode cX2_turnedBit 46 = .ok (.iload_n 1, 1) := by decide +kernel
theorem dX2_turnedBit_47 : decode cX2_turnedBit 47 = .ok (.iload_n 3, 1) := by decide +kernel
theorem dX2_turnedBit_48 : decode cX2_turnedBit 48 = .ok (.invokevirtual 188, 3) := by decide +kernel
theorem dX2_turnedBit_51 : decode cX2_turnedBit 51 = .ok (.ireturn, 1) := by decide +kernel
theorem dX2_turnedBit_52 : decode cX2_turnedBit 52 = .ok (.aload_n 0, 1) := by decide +kernel
theorem dX2_turnedBit_53 : decode cX2_turnedBit 53 = .ok (.iload_n 2, 1) := by decide +kernel
theorem dX2_turnedBit_54 : decode cX2_turnedBit 54 = .ok (.iload_n 3, 1) := by decide +kernel
theorem dX2_turnedBit_55 : decode cX2_turnedBit 55 = .ok (.iload_n 1, 1) := by decide +kernel
theorem dX2_turnedBit_56 : decode cX2_turnedBit 56 = .ok (.invokevirtual 188, 3) := by decide +kernel
theorem dX2_turnedBit_59 : decode cX2_turnedBit 59 = .ok (.ireturn, 1) := by decide +kernel
theorem dX2_turnedBit_60 : decode cX2_turnedBit 60 = .ok (.aload_n 0, 1) := by decide +kernel
theorem dX2_turnedBit_61 : decode cX2_turnedBit 61 = .ok (.iload_n 3, 1) := by decide +kernel
theorem dX2_turnedBit_62 : decode cX2_turnedBit 62 = .ok (.iload_n 1, 1) := by decide +kernel
theorem dX2_turnedBit_63 : decode cX2_turnedBit 63 = .ok (.iload_n 2, 1) := by decide +kernel
theorem dX2_turnedBit_64 : decode cX2_turnedBit 64 = .ok (.invokevirtual 188, 3) := by decide +kernel
theorem dX2_turnedBit_67 : decode cX2_turnedBit 67 = .ok (.ireturn, 1) := by decide +kernel
theorem dX2_turnedBit_68 : decode cX2_turnedBit 68 = .ok (.aload_n 0, 1) := by decide +kernel
theorem dX2_turnedBit_69 : decode cX2_turnedBit 69 = .ok (.iload_n 3, 1) := by decide +kernel
theorem dX2_turnedBit_70 : decode cX2_turnedBit 70 = .ok (.iload_n 2, 1) := by decide +kernel
theorem dX2_turnedBit_71 : decode cX2_turnedBit 71 = .ok (.iload_n 1, 1) := by decide +kernel
theorem dX2_turnedBit_72 : decode cX2_turnedBit 72 = .ok (.invokevirtual 188, 3) := by decide +kernel
theorem dX2_turnedBit_75 : decode cX2_turnedBit 75 = .ok (.ireturn, 1) := by decide +kernel
theorem dX2_turnedBit_76 : decode cX2_turnedBit 76 = .ok (.aload_n 0, 1) := by decide +kernel
theorem dX2_turnedBit_77 : decode cX2_turnedBit 77 = .ok (.iload_n 1, 1) := by decide +kernel
theorem dX2_turnedBit_78 : decode cX2_turnedBit 78 = .ok (.iload_n 2, 1) := by decide +kernel
theorem dX2_turnedBit_79 : decode cX2_turnedBit 79 = .ok (.iload_n 3, 1) := by decide +kernel
theorem dX2_turnedBit_80 : decode cX2_turnedBit 80 = .ok (.invokevirtual 188, 3) := by decide +kernel
theorem dX2_turnedBit_83 : decode cX2_turnedBit 83 = .ok (.ireturn, 1) := by decide +kernel
set_option maxRecDepth 20000 in
theorem ggX2_readCells_X2_cellIndex : GoodIn wsX2_readCells wsX2_cellIndex := goodIn_r _ [5] (by decide +kernel) (by decide +kernel)
set_option maxRecDepth 20000 in
theorem gX2_readCells_X2_cellIndex : GoodIn wsX2_readCells (va_wsS RX2 46 yX2_cellIndex wsX2_cellIndex) := goodIn_app (goodIn_of _ (by decide +kernel)) ggX2_readCells_X2_cellIndex
theorem dX2_readCells_0 : decode cX2_readCells 0 = .ok (.iload_n 1, 1) := by decide +kernel
theorem dX2_readCells_1 : decode cX2_readCells 1 = .ok (.istore_n 3, 1) := by decide +kernel
theorem dX2_readCells_2 : decode cX2_readCells 2 = .ok (.iconst 0, 1) := by decide +kernel
theorem dX2_readCells_3 : decode cX2_readCells 3 = .ok (.istore 4, 2) := by decide +kernel
theorem dX2_readCells_5 : decode cX2_readCells 5 = .ok (.iload 4, 2) := by decide +kernel
theorem dX2_readCells_7 : decode cX2_readCells 7 = .ok (.iload_n 2, 1) := by decide +kernel
theorem dX2_readCells_8 : decode cX2_readCells 8 = .ok (.if_icmp .ge 47, 3) := by decide +kernel
theorem dX2_readCells_11 : decode cX2_readCells 11 = .ok (.iconst 0, 1) := by decide +kernel
theorem dX2_readCells_12 : decode cX2_readCells 12 = .ok (.istore 5, 2) := by decide +kernel
theorem dX2_readCells_14 : decode cX2_readCells 14 = .ok (.iload 5, 2) := by decide +kernel
theorem dX2_readCells_16 : decode cX2_readCells 16 = .ok (.iload_n 2, 1) := by decide +kernel
theorem dX2_readCells_17 : decode cX2_readCells 17 = .ok (.if_icmp .ge 32, 3) := by decide +kernel
theorem dX2_readCells_20 : decode cX2_readCells 20 = .ok (.aload_n 0, 1) := by decide +kernel
theorem dX2_readCells_21 : decode cX2_readCells 21 = .ok (.getfield 25, 3) := by decide +kernel
theorem dX2_readCells_24 : decode cX2_readCells 24 = .ok (.iload 4, 2) := by decide +kernel
theorem dX2_readCells_26 : decode cX2_readCells 26 = .ok (.iload 5, 2) := by decide +kernel
theorem dX2_readCells_28 : decode cX2_readCells 28 = .ok (.invokestatic 46, 3) := by decide +kernel
theorem dX2_readCells_31 : decode cX2_readCells 31 = .ok (.iload_n 3, 1) := by decide +kernel
theorem dX2_readCells_32 : decode cX2_readCells 32 = .ok (.iconst 1, 1) := by decide +kernel
theorem dX2_readCells_33 : decode cX2_readCells 33 = .ok (.iload_n 2, 1) := by decide +kernel
theorem dX2_readCells_34 : decode cX2_readCells 34 = .ok (.ishl, 1) := by decide +kernel
theorem dX2_readCells_35 : decode cX2_readCells 35 = .ok (.iconst 1, 1) := by decide +kernel
theorem dX2_readCells_36 : decode cX2_readCells 36 = .ok (.isub, 1) := by decide +kernel
theorem dX2_readCells_37 : decode cX2_readCells 37 = .ok (.iand, 1) := by decide +kernel
theorem dX2_readCells_38 : decode cX2_readCells 38 = .ok (.iastore, 1) := by decide +kernel
theorem dX2_readCells_39 : decode cX2_readCells 39 = .ok (.iload_n 3, 1) := by decide +kernel
theorem dX2_readCells_40 : decode cX2_readCells 40 = .ok (.iload_n 2, 1) := by decide +kernel
theorem dX2_readCells_41 : decode cX2_readCells 41 = .ok (.ishr, 1) := by decide +kernel
theorem dX2_readCells_42 : decode cX2_readCells 42 = .ok (.istore_n 3, 1) := by decide +kernel
theorem dX2_readCells_43 : decode cX2_readCells 43 = .ok (.iinc 5 1, 3) := by decide +kernel
theorem dX2_readCells_46 : decode cX2_readCells 46 = .ok (.goto (-32), 3) := by decide +kernel
theorem dX2_readCells_49 : decode cX2_readCells 49 = .ok (.iinc 4 1, 3) := by decide +kernel
theorem dX2_readCells_52 : decode cX2_readCells 52 = .ok (.goto (-47), 3) := by decide +kernel
theorem dX2_readCells_55 : decode cX2_readCells 55 = .ok (.return_, 1) := by decide +kernel
theorem dX2_sumOf_0 : decode cX2_sumOf 0 = .ok (.iconst 0, 1) := by decide +kernel
theorem dX2_sumOf_1 : decode cX2_sumOf 1 = .ok (.istore_n 2, 1) := by decide +kernel
theorem dX2_sumOf_2 : decode cX2_sumOf 2 = .ok (.iconst 0, 1) := by decide +kernel
theorem dX2_sumOf_3 : decode cX2_sumOf 3 = .ok (.istore_n 3, 1) := by decide +kernel
theorem dX2_sumOf_4 : decode cX2_sumOf 4 = .ok (.iload_n 3, 1) := by decide +kernel
theorem dX2_sumOf_5 : decode cX2_sumOf 5 = .ok (.aload_n 0, 1) := by decide +kernel
theorem dX2_sumOf_6 : decode cX2_sumOf 6 = .ok (.arraylength, 1) := by decide +kernel
theorem dX2_sumOf_7 : decode cX2_sumOf 7 = .ok (.if_icmp .ge 24, 3) := by decide +kernel
theorem dX2_sumOf_10 : decode cX2_sumOf 10 = .ok (.iload_n 1, 1) := by decide +kernel
theorem dX2_sumOf_11 : decode cX2_sumOf 11 = .ok (.iload_n 3, 1) := by decide +kernel
theorem dX2_sumOf_12 : decode cX2_sumOf 12 = .ok (.ishr, 1) := by decide +kernel
theorem dX2_sumOf_13 : decode cX2_sumOf 13 = .ok (.iconst 1, 1) := by decide +kernel
theorem dX2_sumOf_14 : decode cX2_sumOf 14 = .ok (.iand, 1) := by decide +kernel
theorem dX2_sumOf_15 : decode cX2_sumOf 15 = .ok (.iconst 1, 1) := by decide +kernel
theorem dX2_sumOf_16 : decode cX2_sumOf 16 = .ok (.if_icmp .ne 9, 3) := by decide +kernel
theorem dX2_sumOf_19 : decode cX2_sumOf 19 = .ok (.iload_n 2, 1) := by decide +kernel
theorem dX2_sumOf_20 : decode cX2_sumOf 20 = .ok (.aload_n 0, 1) := by decide +kernel
theorem dX2_sumOf_21 : decode cX2_sumOf 21 = .ok (.iload_n 3, 1) := by decide +kernel
theorem dX2_sumOf_22 : decode cX2_sumOf 22 = .ok (.iaload, 1) := by decide +kernel
theorem dX2_sumOf_23 : decode cX2_sumOf 23 = .ok (.ixor, 1) := by decide +kernel
theorem dX2_sumOf_24 : decode cX2_sumOf 24 = .ok (.istore_n 2, 1) := by decide +kernel
theorem dX2_sumOf_25 : decode cX2_sumOf 25 = .ok (.iinc 3 1, 3) := by decide +kernel
theorem dX2_sumOf_28 : decode cX2_sumOf 28 = .ok (.goto (-24), 3) := by decide +kernel
theorem dX2_sumOf_31 : decode cX2_sumOf 31 = .ok (.iload_n 2, 1) := by decide +kernel
theorem dX2_sumOf_32 : decode cX2_sumOf 32 = .ok (.ireturn, 1) := by decide +kernel
set_option maxRecDepth 20000 in
theorem ggX2_isFit_X2_sumOf : GoodIn wsX2_isFit wsX2_sumOf := goodIn_r _ [4] (by decide +kernel) (by decide +kernel)
set_option maxRecDepth 20000 in
theorem gX2_isFit_X2_sumOf : GoodIn wsX2_isFit (va_wsS RX2 123 yX2_sumOf wsX2_sumOf) := goodIn_app (goodIn_of _ (by decide +kernel)) ggX2_isFit_X2_sumOf
theorem dX2_isFit_0 : decode cX2_isFit 0 = .ok (.iconst 1, 1) := by decide +kernel
theorem dX2_isFit_1 : decode cX2_isFit 1 = .ok (.iload_n 1, 1) := by decide +kernel
theorem dX2_isFit_2 : decode cX2_isFit 2 = .ok (.ishl, 1) := by decide +kernel
theorem dX2_isFit_3 : decode cX2_isFit 3 = .ok (.istore_n 2, 1) := by decide +kernel
theorem dX2_isFit_4 : decode cX2_isFit 4 = .ok (.iconst 0, 1) := by decide +kernel
theorem dX2_isFit_5 : decode cX2_isFit 5 = .ok (.istore_n 3, 1) := by decide +kernel
theorem dX2_isFit_6 : decode cX2_isFit 6 = .ok (.iconst 0, 1) := by decide +kernel
theorem dX2_isFit_7 : decode cX2_isFit 7 = .ok (.istore 4, 2) := by decide +kernel
theorem dX2_isFit_9 : decode cX2_isFit 9 = .ok (.iload 4, 2) := by decide +kernel
theorem dX2_isFit_11 : decode cX2_isFit 11 = .ok (.iload_n 2, 1) := by decide +kernel
theorem dX2_isFit_12 : decode cX2_isFit 12 = .ok (.if_icmp .ge 42, 3) := by decide +kernel
theorem dX2_isFit_15 : decode cX2_isFit 15 = .ok (.aload_n 0, 1) := by decide +kernel
theorem dX2_isFit_16 : decode cX2_isFit 16 = .ok (.iload 4, 2) := by decide +kernel
theorem dX2_isFit_18 : decode cX2_isFit 18 = .ok (.invokestatic 123, 3) := by decide +kernel
theorem dX2_isFit_21 : decode cX2_isFit 21 = .ok (.istore 5, 2) := by decide +kernel
theorem dX2_isFit_23 : decode cX2_isFit 23 = .ok (.iload 5, 2) := by decide +kernel
theorem dX2_isFit_25 : decode cX2_isFit 25 = .ok (.iload_n 2, 1) := by decide +kernel
theorem dX2_isFit_26 : decode cX2_isFit 26 = .ok (.if_icmp .ge 13, 3) := by decide +kernel
theorem dX2_isFit_29 : decode cX2_isFit 29 = .ok (.iload_n 3, 1) := by decide +kernel
theorem dX2_isFit_30 : decode cX2_isFit 30 = .ok (.iload 5, 2) := by decide +kernel
theorem dX2_isFit_32 : decode cX2_isFit 32 = .ok (.ishr, 1) := by decide +kernel
theorem dX2_isFit_33 : decode cX2_isFit 33 = .ok (.iconst 1, 1) := by decide +kernel
theorem dX2_isFit_34 : decode cX2_isFit 34 = .ok (.iand, 1) := by decide +kernel
theorem dX2_isFit_35 : decode cX2_isFit 35 = .ok (.iconst 1, 1) := by decide +kernel
theorem dX2_isFit_36 : decode cX2_isFit 36 = .ok (.if_icmp .ne 5, 3) := by decide +kernel
theorem dX2_isFit_39 : decode cX2_isFit 39 = .ok (.iconst 0, 1) := by decide +kernel
theorem dX2_isFit_40 : decode cX2_isFit 40 = .ok (.ireturn, 1) := by decide +kernel
theorem dX2_isFit_41 : decode cX2_isFit 41 = .ok (.iload_n 3, 1) := by decide +kernel
theorem dX2_isFit_42 : decode cX2_isFit 42 = .ok (.iconst 1, 1) := by decide +kernel
theorem dX2_isFit_43 : decode cX2_isFit 43 = .ok (.iload 5, 2) := by decide +kernel
theorem dX2_isFit_45 : decode cX2_isFit 45 = .ok (.ishl, 1) := by decide +kernel
theorem dX2_isFit_46 : decode cX2_isFit 46 = .ok (.ior, 1) := by decide +kernel
theorem dX2_isFit_47 : decode cX2_isFit 47 = .ok (.istore_n 3, 1) := by decide +kernel
theorem dX2_isFit_48 : decode cX2_isFit 48 = .ok (.iinc 4 1, 3) := by decide +kernel
theorem dX2_isFit_51 : decode cX2_isFit 51 = .ok (.goto (-42), 3) := by decide +kernel
theorem dX2_isFit_54 : decode cX2_isFit 54 = .ok (.iconst 1, 1) := by decide +kernel
theorem dX2_isFit_55 : decode cX2_isFit 55 = .ok (.ireturn, 1) := by decide +kernel
set_option maxRecDepth 20000 in
theorem ggX2_allMapsFit_X2_isFit : GoodIn wsX2_allMapsFit wsX2_isFit := goodIn_r _ [5, 6, 7, 4, 8] (by decide +kernel) (by decide +kernel)
set_option maxRecDepth 20000 in
theorem gX2_allMapsFit_X2_isFit : GoodIn wsX2_allMapsFit (va_wsS RX2 127 yX2_isFit wsX2_isFit) := goodIn_app (goodIn_of _ (by decide +kernel)) ggX2_allMapsFit_X2_isFit
theorem dX2_allMapsFit_0 : decode cX2_allMapsFit 0 = .ok (.iconst 0, 1) := by decide +kernel
theorem dX2_allMapsFit_1 : decode cX2_allMapsFit 1 = .ok (.istore_n 2, 1) := by decide +kernel
theorem dX2_allMapsFit_2 : decode cX2_allMapsFit 2 = .ok (.iload_n 2, 1) := by decide +kernel
theorem dX2_allMapsFit_3 : decode cX2_allMapsFit 3 = .ok (.aload_n 0, 1) := by decide +kernel
theorem dX2_allMapsFit_4 : decode cX2_allMapsFit 4 = .ok (.getfield 17, 3) := by decide +kernel
theorem dX2_allMapsFit_7 : decode cX2_allMapsFit 7 = .ok (.arraylength, 1) := by decide +kernel
theorem dX2_allMapsFit_8 : decode cX2_allMapsFit 8 = .ok (.if_icmp .ge 24, 3) := by decide +kernel
theorem dX2_allMapsFit_11 : decode cX2_allMapsFit 11 = .ok (.aload_n 0, 1) := by decide +kernel
theorem dX2_allMapsFit_12 : decode cX2_allMapsFit 12 = .ok (.getfield 17, 3) := by decide +kernel
theorem dX2_allMapsFit_15 : decode cX2_allMapsFit 15 = .ok (.iload_n 2, 1) := by decide +kernel
theorem dX2_allMapsFit_16 : decode cX2_allMapsFit 16 = .ok (.aaload, 1) := by decide +kernel
theorem dX2_allMapsFit_17 : decode cX2_allMapsFit 17 = .ok (.iload_n 1, 1) := by decide +kernel
theorem dX2_allMapsFit_18 : decode cX2_allMapsFit 18 = .ok (.invokestatic 127, 3) := by decide +kernel
theorem dX2_allMapsFit_21 : decode cX2_allMapsFit 21 = .ok (.ifCond .ne 5, 3) := by decide +kernel
theorem dX2_allMapsFit_24 : decode cX2_allMapsFit 24 = .ok (.iconst 0, 1) := by decide +kernel
theorem dX2_allMapsFit_25 : decode cX2_allMapsFit 25 = .ok (.ireturn, 1) := by decide +kernel
theorem dX2_allMapsFit_26 : decode cX2_allMapsFit 26 = .ok (.iinc 2 1, 3) := by decide +kernel
theorem dX2_allMapsFit_29 : decode cX2_allMapsFit 29 = .ok (.goto (-27), 3) := by decide +kernel
theorem dX2_allMapsFit_32 : decode cX2_allMapsFit 32 = .ok (.iconst 1, 1) := by decide +kernel
theorem dX2_allMapsFit_33 : decode cX2_allMapsFit 33 = .ok (.ireturn, 1) := by decide +kernel
set_option maxRecDepth 20000 in
theorem ggX2_sourceOf_X2_sumOf : GoodIn wsX2_sourceOf wsX2_sumOf := goodIn_r _ [4] (by decide +kernel) (by decide +kernel)
set_option maxRecDepth 20000 in
theorem gX2_sourceOf_X2_sumOf : GoodIn wsX2_sourceOf (va_wsS RX2 123 yX2_sumOf wsX2_sumOf) := goodIn_app (goodIn_of _ (by decide +kernel)) ggX2_sourceOf_X2_sumOf
theorem dX2_sourceOf_0 : decode cX2_sourceOf 0 = .ok (.iconst 0, 1) := by decide +kernel
theorem dX2_sourceOf_1 : decode cX2_sourceOf 1 = .ok (.istore_n 3, 1) := by decide +kernel
theorem dX2_sourceOf_2 : decode cX2_sourceOf 2 = .ok (.iload_n 3, 1) := by decide +kernel
theorem dX2_sourceOf_3 : decode cX2_sourceOf 3 = .ok (.iconst 1, 1) := by decide +kernel
theorem dX2_sourceOf_4 : decode cX2_sourceOf 4 = .ok (.iload_n 1, 1) := by decide +kernel
theorem dX2_sourceOf_5 : decode cX2_sourceOf 5 = .ok (.ishl, 1) := by decide +kernel
theorem dX2_sourceOf_6 : decode cX2_sourceOf 6 = .ok (.if_icmp .ge 20, 3) := by decide +kernel
theorem dX2_sourceOf_9 : decode cX2_sourceOf 9 = .ok (.aload_n 0, 1) := by decide +kernel
theorem dX2_sourceOf_10 : decode cX2_sourceOf 10 = .ok (.iload_n 3, 1) := by decide +kernel
theorem dX2_sourceOf_11 : decode cX2_sourceOf 11 = .ok (.invokestatic 123, 3) := by decide +kernel
theorem dX2_sourceOf_14 : decode cX2_sourceOf 14 = .ok (.iload_n 2, 1) := by decide +kernel
theorem dX2_sourceOf_15 : decode cX2_sourceOf 15 = .ok (.if_icmp .ne 5, 3) := by decide +kernel
theorem dX2_sourceOf_18 : decode cX2_sourceOf 18 = .ok (.iload_n 3, 1) := by decide +kernel
theorem dX2_sourceOf_19 : decode cX2_sourceOf 19 = .ok (.ireturn, 1) := by decide +kernel
theorem dX2_sourceOf_20 : decode cX2_sourceOf 20 = .ok (.iinc 3 1, 3) := by decide +kernel
theorem dX2_sourceOf_23 : decode cX2_sourceOf 23 = .ok (.goto (-21), 3) := by decide +kernel
theorem dX2_sourceOf_26 : decode cX2_sourceOf 26 = .ok (.iconst 0, 1) := by decide +kernel
theorem dX2_sourceOf_27 : decode cX2_sourceOf 27 = .ok (.ireturn, 1) := by decide +kernel
set_option maxRecDepth 20000 in
theorem ggX2_mapsCarry_X1_bits : GoodIn wsX2_mapsCarry wsX1_bits := goodIn_r _ [6, 7, 27, 28, 29, 30] (by decide +kernel) (by decide +kernel)
set_option maxRecDepth 20000 in
theorem gX2_mapsCarry_X1_bits : GoodIn wsX2_mapsCarry (wsV RX2 99 RX1 yX1_bits wsX1_bits) := goodIn_app (goodIn_of _ (by decide +kernel)) ggX2_mapsCarry_X1_bits
set_option maxRecDepth 20000 in
theorem ggX2_mapsCarry_X2_sumOf : GoodIn wsX2_mapsCarry wsX2_sumOf := goodIn_r _ [11] (by decide +kernel) (by decide +kernel)
set_option maxRecDepth 20000 in
theorem gX2_mapsCarry_X2_sumOf : GoodIn wsX2_mapsCarry (va_wsS RX2 123 yX2_sumOf wsX2_sumOf) := goodIn_app (goodIn_of _ (by decide +kernel)) ggX2_mapsCarry_X2_sumOf
set_option maxRecDepth 20000 in
theorem ggX2_mapsCarry_X1_times : GoodIn wsX2_mapsCarry wsX1_times := goodIn_r _ [15, 16, 17, 18, 5, 19, 27, 28, 29, 30] (by decide +kernel) (by decide +kernel)
set_option maxRecDepth 20000 in
theorem gX2_mapsCarry_X1_times : GoodIn wsX2_mapsCarry (wsV RX2 74 RX1 yX1_times wsX1_times) := goodIn_app (goodIn_of _ (by decide +kernel)) ggX2_mapsCarry_X1_times
theorem dX2_mapsCarry_0 : decode cX2_mapsCarry 0 = .ok (.iconst 0, 1) := by decide +kernel
theorem dX2_mapsCarry_1 : decode cX2_mapsCarry 1 = .ok (.istore_n 3, 1) := by decide +kernel
theorem dX2_mapsCarry_2 : decode cX2_mapsCarry 2 = .ok (.iload_n 3, 1) := by decide +kernel
theorem dX2_mapsCarry_3 : decode cX2_mapsCarry 3 = .ok (.aload_n 1, 1) := by decide +kernel
theorem dX2_mapsCarry_4 : decode cX2_mapsCarry 4 = .ok (.invokevirtual 99, 3) := by decide +kernel
theorem dX2_mapsCarry_7 : decode cX2_mapsCarry 7 = .ok (.if_icmp .ge 85, 3) := by decide +kernel
theorem dX2_mapsCarry_10 : decode cX2_mapsCarry 10 = .ok (.iconst 0, 1) := by decide +kernel
theorem dX2_mapsCarry_11 : decode cX2_mapsCarry 11 = .ok (.istore 4, 2) := by decide +kernel
theorem dX2_mapsCarry_13 : decode cX2_mapsCarry 13 = .ok (.iload 4, 2) := by decide +kernel
theorem dX2_mapsCarry_15 : decode cX2_mapsCarry 15 = .ok (.aload_n 1, 1) := by decide +kernel
theorem dX2_mapsCarry_16 : decode cX2_mapsCarry 16 = .ok (.invokevirtual 99, 3) := by decide +kernel
theorem dX2_mapsCarry_19 : decode cX2_mapsCarry 19 = .ok (.if_icmp .ge 67, 3) := by decide +kernel
theorem dX2_mapsCarry_22 : decode cX2_mapsCarry 22 = .ok (.aload_n 2, 1) := by decide +kernel
theorem dX2_mapsCarry_23 : decode cX2_mapsCarry 23 = .ok (.aload_n 0, 1) := by decide +kernel
theorem dX2_mapsCarry_24 : decode cX2_mapsCarry 24 = .ok (.getfield 17, 3) := by decide +kernel
theorem dX2_mapsCarry_27 : decode cX2_mapsCarry 27 = .ok (.iconst 0, 1) := by decide +kernel
theorem dX2_mapsCarry_28 : decode cX2_mapsCarry 28 = .ok (.aaload, 1) := by decide +kernel
theorem dX2_mapsCarry_29 : decode cX2_mapsCarry 29 = .ok (.iconst 1, 1) := by decide +kernel
theorem dX2_mapsCarry_30 : decode cX2_mapsCarry 30 = .ok (.iload_n 3, 1) := by decide +kernel
theorem dX2_mapsCarry_31 : decode cX2_mapsCarry 31 = .ok (.ishl, 1) := by decide +kernel
theorem dX2_mapsCarry_32 : decode cX2_mapsCarry 32 = .ok (.invokestatic 123, 3) := by decide +kernel
theorem dX2_mapsCarry_35 : decode cX2_mapsCarry 35 = .ok (.aload_n 0, 1) := by decide +kernel
theorem dX2_mapsCarry_36 : decode cX2_mapsCarry 36 = .ok (.getfield 17, 3) := by decide +kernel
theorem dX2_mapsCarry_39 : decode cX2_mapsCarry 39 = .ok (.iconst 1, 1) := by decide +kernel
theorem dX2_mapsCarry_40 : decode cX2_mapsCarry 40 = .ok (.aaload, 1) := by decide +kernel
theorem dX2_mapsCarry_41 : decode cX2_mapsCarry 41 = .ok (.iconst 1, 1) := by decide +kernel
theorem dX2_mapsCarry_42 : decode cX2_mapsCarry 42 = .ok (.iload 4, 2) := by decide +kernel
theorem dX2_mapsCarry_44 : decode cX2_mapsCarry 44 = .ok (.ishl, 1) := by decide +kernel
theorem dX2_mapsCarry_45 : decode cX2_mapsCarry 45 = .ok (.invokestatic 123, 3) := by decide +kernel
theorem dX2_mapsCarry_48 : decode cX2_mapsCarry 48 = .ok (.invokevirtual 74, 3) := by decide +kernel
theorem dX2_mapsCarry_51 : decode cX2_mapsCarry 51 = .ok (.istore 5, 2) := by decide +kernel
theorem dX2_mapsCarry_53 : decode cX2_mapsCarry 53 = .ok (.iload 5, 2) := by decide +kernel
theorem dX2_mapsCarry_55 : decode cX2_mapsCarry 55 = .ok (.aload_n 0, 1) := by decide +kernel
theorem dX2_mapsCarry_56 : decode cX2_mapsCarry 56 = .ok (.getfield 17, 3) := by decide +kernel
theorem dX2_mapsCarry_59 : decode cX2_mapsCarry 59 = .ok (.iconst 2, 1) := by decide +kernel
theorem dX2_mapsCarry_60 : decode cX2_mapsCarry 60 = .ok (.aaload, 1) := by decide +kernel
theorem dX2_mapsCarry_61 : decode cX2_mapsCarry 61 = .ok (.aload_n 1, 1) := by decide +kernel
theorem dX2_mapsCarry_62 : decode cX2_mapsCarry 62 = .ok (.iconst 1, 1) := by decide +kernel
theorem dX2_mapsCarry_63 : decode cX2_mapsCarry 63 = .ok (.iload_n 3, 1) := by decide +kernel
theorem dX2_mapsCarry_64 : decode cX2_mapsCarry 64 = .ok (.ishl, 1) := by decide +kernel
theorem dX2_mapsCarry_65 : decode cX2_mapsCarry 65 = .ok (.iconst 1, 1) := by decide +kernel
theorem dX2_mapsCarry_66 : decode cX2_mapsCarry 66 = .ok (.iload 4, 2) := by decide +kernel
theorem dX2_mapsCarry_68 : decode cX2_mapsCarry 68 = .ok (.ishl, 1) := by decide +kernel
theorem dX2_mapsCarry_69 : decode cX2_mapsCarry 69 = .ok (.invokevirtual 74, 3) := by decide +kernel
theorem dX2_mapsCarry_72 : decode cX2_mapsCarry 72 = .ok (.invokestatic 123, 3) := by decide +kernel
theorem dX2_mapsCarry_75 : decode cX2_mapsCarry 75 = .ok (.if_icmp .eq 5, 3) := by decide +kernel
theorem dX2_mapsCarry_78 : decode cX2_mapsCarry 78 = .ok (.iconst 0, 1) := by decide +kernel
theorem dX2_mapsCarry_79 : decode cX2_mapsCarry 79 = .ok (.ireturn, 1) := by decide +kernel
theorem dX2_mapsCarry_80 : decode cX2_mapsCarry 80 = .ok (.iinc 4 1, 3) := by decide +kernel
theorem dX2_mapsCarry_83 : decode cX2_mapsCarry 83 = .ok (.goto (-70), 3) := by decide +kernel
theorem dX2_mapsCarry_86 : decode cX2_mapsCarry 86 = .ok (.iinc 3 1, 3) := by decide +kernel
theorem dX2_mapsCarry_89 : decode cX2_mapsCarry 89 = .ok (.goto (-87), 3) := by decide +kernel
theorem dX2_mapsCarry_92 : decode cX2_mapsCarry 92 = .ok (.iconst 1, 1) := by decide +kernel
theorem dX2_mapsCarry_93 : decode cX2_mapsCarry 93 = .ok (.ireturn, 1) := by decide +kernel
set_option maxRecDepth 20000 in
theorem ggX2_countWays_X1_bits : GoodIn wsX2_countWays wsX1_bits := goodIn_r _ [7, 8, 53, 54, 55, 56] (by decide +kernel) (by decide +kernel)
set_option maxRecDepth 20000 in
theorem gX2_countWays_X1_bits : GoodIn wsX2_countWays (wsV RX2 99 RX1 yX1_bits wsX1_bits) := goodIn_app (goodIn_of _ (by decide +kernel)) ggX2_countWays_X1_bits
set_option maxRecDepth 20000 in
theorem ggX2_countWays_X1_solve : GoodIn wsX2_countWays wsX1_solve := goodIn_r _ [12, 13, 14, 15, 16, 6, 17, 18, 19, 20, 21, 53, 54, 55, 56] (by decide +kernel) (by decide +kernel)
set_option maxRecDepth 20000 in
theorem gX2_countWays_X1_solve : GoodIn wsX2_countWays (wsV RX2 95 RX1 yX1_solve wsX1_solve) := goodIn_app (goodIn_of _ (by decide +kernel)) ggX2_countWays_X1_solve
set_option maxRecDepth 20000 in
theorem ggX2_countWays_X2_readRow : GoodIn wsX2_countWays wsX2_readRow := goodIn_r _ [25] (by decide +kernel) (by decide +kernel)
set_option maxRecDepth 20000 in
theorem gX2_countWays_X2_readRow : GoodIn wsX2_countWays (va_wsS RX2 192 yX2_readRow wsX2_readRow) := goodIn_app (goodIn_of _ (by decide +kernel)) ggX2_countWays_X2_readRow
set_option maxRecDepth 20000 in
theorem ggX2_countWays_X2_isFit : GoodIn wsX2_countWays wsX2_isFit := goodIn_r _ [28, 29, 30, 24, 31] (by decide +kernel) (by decide +kernel)
set_option maxRecDepth 20000 in
theorem gX2_countWays_X2_isFit : GoodIn wsX2_countWays (va_wsS RX2 127 yX2_isFit wsX2_isFit) := goodIn_app (goodIn_of _ (by decide +kernel)) ggX2_countWays_X2_isFit
set_option maxRecDepth 20000 in
theorem ggX2_countWays_X1_size : GoodIn wsX2_countWays wsX1_size := goodIn_r _ [35, 13, 53, 54, 55, 56] (by decide +kernel) (by decide +kernel)
set_option maxRecDepth 20000 in
theorem gX2_countWays_X1_size : GoodIn wsX2_countWays (wsV RX2 54 RX1 yX1_size wsX1_size) := goodIn_app (goodIn_of _ (by decide +kernel)) ggX2_countWays_X1_size
set_option maxRecDepth 20000 in
theorem ggX2_countWays_X2_leavesWay : GoodIn wsX2_countWays wsX2_leavesWay := goodIn_r _ [39, 40, 1, 2, 3, 4, 5, 6, 7, 8, 29, 30, 24, 31, 41, 15, 16, 17, 18, 19, 20, 21, 9, 10, 11, 12, 13, 14, 42, 43, 44, 45, 46, 47, 48, 49, 50, 51, 52, 53, 54, 55, 56] (by decide +kernel) (by decide +kernel)
set_option maxRecDepth 20000 in
theorem gX2_countWays_X2_leavesWay : GoodIn wsX2_countWays (wsV RX2 196 RX2 yX2_leavesWay wsX2_leavesWay) := goodIn_app (goodIn_of _ (by decide +kernel)) ggX2_countWays_X2_leavesWay
theorem dX2_countWays_0 : decode cX2_countWays 0 = .ok (.aload_n 1, 1) := by decide +kernel
theorem dX2_countWays_1 : decode cX2_countWays 1 = .ok (.invokevirtual 99, 3) := by decide +kernel
theorem dX2_countWays_4 : decode cX2_countWays 4 = .ok (.istore_n 3, 1) := by decide +kernel
theorem dX2_countWays_5 : decode cX2_countWays 5 = .ok (.iconst 0, 1) := by decide +kernel
theorem dX2_countWays_6 : decode cX2_countWays 6 = .ok (.istore 4, 2) := by decide +kernel
theorem dX2_countWays_8 : decode cX2_countWays 8 = .ok (.iload 4, 2) := by decide +kernel
theorem dX2_countWays_10 : decode cX2_countWays 10 = .ok (.iload_n 3, 1) := by decide +kernel
theorem dX2_countWays_11 : decode cX2_countWays 11 = .ok (.if_icmp .ge 36, 3) := by decide +kernel
theorem dX2_countWays_14 : decode cX2_countWays 14 = .ok (.iload 4, 2) := by decide +kernel
theorem dX2_countWays_16 : decode cX2_countWays 16 = .ok (.aload_n 0, 1) := by decide +kernel
theorem dX2_countWays_17 : decode cX2_countWays 17 = .ok (.getfield 35, 3) := by decide +kernel
theorem dX2_countWays_20 : decode cX2_countWays 20 = .ok (.arraylength, 1) := by decide +kernel
theorem dX2_countWays_21 : decode cX2_countWays 21 = .ok (.if_icmp .ge 26, 3) := by decide +kernel
theorem dX2_countWays_24 : decode cX2_countWays 24 = .ok (.aload_n 0, 1) := by decide +kernel
theorem dX2_countWays_25 : decode cX2_countWays 25 = .ok (.getfield 35, 3) := by decide +kernel
theorem dX2_countWays_28 : decode cX2_countWays 28 = .ok (.iload 4, 2) := by decide +kernel
theorem dX2_countWays_30 : decode cX2_countWays 30 = .ok (.aload_n 1, 1) := by decide +kernel
theorem dX2_countWays_31 : decode cX2_countWays 31 = .ok (.iconst 1, 1) := by decide +kernel
theorem dX2_countWays_32 : decode cX2_countWays 32 = .ok (.iconst 1, 1) := by decide +kernel
theorem dX2_countWays_33 : decode cX2_countWays 33 = .ok (.iload 4, 2) := by decide +kernel
theorem dX2_countWays_35 : decode cX2_countWays 35 = .ok (.ishl, 1) := by decide +kernel
theorem dX2_countWays_36 : decode cX2_countWays 36 = .ok (.iconst 0, 1) := by decide +kernel
theorem dX2_countWays_37 : decode cX2_countWays 37 = .ok (.invokevirtual 95, 3) := by decide +kernel
theorem dX2_countWays_40 : decode cX2_countWays 40 = .ok (.iastore, 1) := by decide +kernel
theorem dX2_countWays_41 : decode cX2_countWays 41 = .ok (.iinc 4 1, 3) := by decide +kernel
theorem dX2_countWays_44 : decode cX2_countWays 44 = .ok (.goto (-36), 3) := by decide +kernel
theorem dX2_countWays_47 : decode cX2_countWays 47 = .ok (.iconst 0, 1) := by decide +kernel
theorem dX2_countWays_48 : decode cX2_countWays 48 = .ok (.istore 4, 2) := by decide +kernel
theorem dX2_countWays_50 : decode cX2_countWays 50 = .ok (.iconst 0, 1) := by decide +kernel
theorem dX2_countWays_51 : decode cX2_countWays 51 = .ok (.istore 5, 2) := by decide +kernel
theorem dX2_countWays_53 : decode cX2_countWays 53 = .ok (.iload 5, 2) := by decide +kernel
theorem dX2_countWays_55 : decode cX2_countWays 55 = .ok (.iconst 1, 1) := by decide +kernel
theorem dX2_countWays_56 : decode cX2_countWays 56 = .ok (.iload_n 3, 1) := by decide +kernel
theorem dX2_countWays_57 : decode cX2_countWays 57 = .ok (.iload_n 3, 1) := by decide +kernel
theorem dX2_countWays_58 : decode cX2_countWays 58 = .ok (.imul, 1) := by decide +kernel
theorem dX2_countWays_59 : decode cX2_countWays 59 = .ok (.ishl, 1) := by decide +kernel
theorem dX2_countWays_60 : decode cX2_countWays 60 = .ok (.if_icmp .ge 62, 3) := by decide +kernel
theorem dX2_countWays_63 : decode cX2_countWays 63 = .ok (.aload_n 0, 1) := by decide +kernel
theorem dX2_countWays_64 : decode cX2_countWays 64 = .ok (.getfield 29, 3) := by decide +kernel
theorem dX2_countWays_67 : decode cX2_countWays 67 = .ok (.iload 5, 2) := by decide +kernel
theorem dX2_countWays_69 : decode cX2_countWays 69 = .ok (.iload_n 3, 1) := by decide +kernel
theorem dX2_countWays_70 : decode cX2_countWays 70 = .ok (.invokestatic 192, 3) := by decide +kernel
theorem dX2_countWays_73 : decode cX2_countWays 73 = .ok (.aload_n 0, 1) := by decide +kernel
theorem dX2_countWays_74 : decode cX2_countWays 74 = .ok (.getfield 29, 3) := by decide +kernel
theorem dX2_countWays_77 : decode cX2_countWays 77 = .ok (.iload_n 3, 1) := by decide +kernel
theorem dX2_countWays_78 : decode cX2_countWays 78 = .ok (.invokestatic 127, 3) := by decide +kernel
theorem dX2_countWays_81 : decode cX2_countWays 81 = .ok (.ifCond .eq 35, 3) := by decide +kernel
theorem dX2_countWays_84 : decode cX2_countWays 84 = .ok (.iconst 1, 1) := by decide +kernel
theorem dX2_countWays_85 : decode cX2_countWays 85 = .ok (.istore 6, 2) := by decide +kernel
theorem dX2_countWays_87 : decode cX2_countWays 87 = .ok (.iload 6, 2) := by decide +kernel
theorem dX2_countWays_89 : decode cX2_countWays 89 = .ok (.aload_n 2, 1) := by decide +kernel
theorem dX2_countWays_90 : decode cX2_countWays 90 = .ok (.invokevirtual 54, 3) := by decide +kernel
theorem dX2_countWays_93 : decode cX2_countWays 93 = .ok (.if_icmp .ge 23, 3) := by decide +kernel
theorem dX2_countWays_96 : decode cX2_countWays 96 = .ok (.aload_n 0, 1) := by decide +kernel
theorem dX2_countWays_97 : decode cX2_countWays 97 = .ok (.aload_n 1, 1) := by decide +kernel
theorem dX2_countWays_98 : decode cX2_countWays 98 = .ok (.aload_n 2, 1) := by decide +kernel
theorem dX2_countWays_99 : decode cX2_countWays 99 = .ok (.iload 6, 2) := by decide +kernel
theorem dX2_countWays_101 : decode cX2_countWays 101 = .ok (.invokevirtual 196, 3) := by decide +kernel
theorem dX2_countWays_104 : decode cX2_countWays 104 = .ok (.ifCond .eq 6, 3) := by decide +kernel
theorem dX2_countWays_107 : decode cX2_countWays 107 = .ok (.iinc 4 1, 3) := by decide +kernel
theorem dX2_countWays_110 : decode cX2_countWays 110 = .ok (.iinc 6 1, 3) := by decide +kernel
theorem dX2_countWays_113 : decode cX2_countWays 113 = .ok (.goto (-26), 3) := by decide +kernel
theorem dX2_countWays_116 : decode cX2_countWays 116 = .ok (.iinc 5 1, 3) := by decide +kernel
theorem dX2_countWays_119 : decode cX2_countWays 119 = .ok (.goto (-66), 3) := by decide +kernel
theorem dX2_countWays_122 : decode cX2_countWays 122 = .ok (.iload 4, 2) := by decide +kernel
theorem dX2_countWays_124 : decode cX2_countWays 124 = .ok (.ireturn, 1) := by decide +kernel
theorem dX2_readRow_0 : decode cX2_readRow 0 = .ok (.iconst 0, 1) := by decide +kernel
theorem dX2_readRow_1 : decode cX2_readRow 1 = .ok (.istore_n 3, 1) := by decide +kernel
theorem dX2_readRow_2 : decode cX2_readRow 2 = .ok (.iload_n 3, 1) := by decide +kernel
theorem dX2_readRow_3 : decode cX2_readRow 3 = .ok (.iload_n 2, 1) := by decide +kernel
theorem dX2_readRow_4 : decode cX2_readRow 4 = .ok (.if_icmp .ge 29, 3) := by decide +kernel
theorem dX2_readRow_7 : decode cX2_readRow 7 = .ok (.iload_n 3, 1) := by decide +kernel
theorem dX2_readRow_8 : decode cX2_readRow 8 = .ok (.aload_n 0, 1) := by decide +kernel
theorem dX2_readRow_9 : decode cX2_readRow 9 = .ok (.arraylength, 1) := by decide +kernel
theorem dX2_readRow_10 : decode cX2_readRow 10 = .ok (.if_icmp .ge 23, 3) := by decide +kernel
theorem dX2_readRow_13 : decode cX2_readRow 13 = .ok (.aload_n 0, 1) := by decide +kernel
theorem dX2_readRow_14 : decode cX2_readRow 14 = .ok (.iload_n 3, 1) := by decide +kernel
theorem dX2_readRow_15 : decode cX2_readRow 15 = .ok (.iload_n 1, 1) := by decide +kernel
theorem dX2_readRow_16 : decode cX2_readRow 16 = .ok (.iload_n 3, 1) := by decide +kernel
theorem dX2_readRow_17 : decode cX2_readRow 17 = .ok (.iload_n 2, 1) := by decide +kernel
theorem dX2_readRow_18 : decode cX2_readRow 18 = .ok (.imul, 1) := by decide +kernel
theorem dX2_readRow_19 : decode cX2_readRow 19 = .ok (.ishr, 1) := by decide +kernel
theorem dX2_readRow_20 : decode cX2_readRow 20 = .ok (.iconst 1, 1) := by decide +kernel
theorem dX2_readRow_21 : decode cX2_readRow 21 = .ok (.iload_n 2, 1) := by decide +kernel
theorem dX2_readRow_22 : decode cX2_readRow 22 = .ok (.ishl, 1) := by decide +kernel
theorem dX2_readRow_23 : decode cX2_readRow 23 = .ok (.iconst 1, 1) := by decide +kernel
theorem dX2_readRow_24 : decode cX2_readRow 24 = .ok (.isub, 1) := by decide +kernel
theorem dX2_readRow_25 : decode cX2_readRow 25 = .ok (.iand, 1) := by decide +kernel
theorem dX2_readRow_26 : decode cX2_readRow 26 = .ok (.iastore, 1) := by decide +kernel
theorem dX2_readRow_27 : decode cX2_readRow 27 = .ok (.iinc 3 1, 3) := by decide +kernel
theorem dX2_readRow_30 : decode cX2_readRow 30 = .ok (.goto (-28), 3) := by decide +kernel
theorem dX2_readRow_33 : decode cX2_readRow 33 = .ok (.return_, 1) := by decide +kernel
set_option maxRecDepth 20000 in
theorem ggX2_leavesWay_X1_bits : GoodIn wsX2_leavesWay wsX1_bits := goodIn_r _ [8, 9, 39, 40, 41, 42] (by decide +kernel) (by decide +kernel)
set_option maxRecDepth 20000 in
theorem gX2_leavesWay_X1_bits : GoodIn wsX2_leavesWay (wsV RX2 99 RX1 yX1_bits wsX1_bits) := goodIn_app (goodIn_of _ (by decide +kernel)) ggX2_leavesWay_X1_bits
set_option maxRecDepth 20000 in
theorem ggX2_leavesWay_X2_sumOf : GoodIn wsX2_leavesWay wsX2_sumOf := goodIn_r _ [13] (by decide +kernel) (by decide +kernel)
set_option maxRecDepth 20000 in
theorem gX2_leavesWay_X2_sumOf : GoodIn wsX2_leavesWay (va_wsS RX2 123 yX2_sumOf wsX2_sumOf) := goodIn_app (goodIn_of _ (by decide +kernel)) ggX2_leavesWay_X2_sumOf
set_option maxRecDepth 20000 in
theorem ggX2_leavesWay_X1_times : GoodIn wsX2_leavesWay wsX1_times := goodIn_r _ [17, 18, 19, 20, 7, 21, 39, 40, 41, 42] (by decide +kernel) (by decide +kernel)
set_option maxRecDepth 20000 in
theorem gX2_leavesWay_X1_times : GoodIn wsX2_leavesWay (wsV RX2 74 RX1 yX1_times wsX1_times) := goodIn_app (goodIn_of _ (by decide +kernel)) ggX2_leavesWay_X1_times
set_option maxRecDepth 20000 in
theorem ggX2_leavesWay_X1_solve : GoodIn wsX2_leavesWay wsX1_solve := goodIn_r _ [25, 26, 27, 15, 16, 7, 17, 18, 19, 20, 21, 39, 40, 41, 42] (by decide +kernel) (by decide +kernel)
set_option maxRecDepth 20000 in
theorem gX2_leavesWay_X1_solve : GoodIn wsX2_leavesWay (wsV RX2 95 RX1 yX1_solve wsX1_solve) := goodIn_app (goodIn_of _ (by decide +kernel)) ggX2_leavesWay_X1_solve
set_option maxRecDepth 20000 in
theorem ggX2_leavesWay_X2_agrees : GoodIn wsX2_leavesWay wsX2_agrees := goodIn_r _ [31, 3, 1, 4, 5, 6, 7, 8, 9, 14, 15, 16, 17, 18, 19, 20, 21, 10, 11, 12, 13, 32, 33, 34, 35, 36, 37, 38, 39, 40, 41, 42] (by decide +kernel) (by decide +kernel)
set_option maxRecDepth 20000 in
theorem gX2_leavesWay_X2_agrees : GoodIn wsX2_leavesWay (wsV RX2 200 RX2 yX2_agrees wsX2_agrees) := goodIn_app (goodIn_of _ (by decide +kernel)) ggX2_leavesWay_X2_agrees
theorem dX2_leavesWay_0 : decode cX2_leavesWay 0 = .ok (.aload_n 1, 1) := by decide +kernel
theorem dX2_leavesWay_1 : decode cX2_leavesWay 1 = .ok (.invokevirtual 99, 3) := by decide +kernel
theorem dX2_leavesWay_4 : decode cX2_leavesWay 4 = .ok (.istore 4, 2) := by decide +kernel
theorem dX2_leavesWay_6 : decode cX2_leavesWay 6 = .ok (.iconst 0, 1) := by decide +kernel
theorem dX2_leavesWay_7 : decode cX2_leavesWay 7 = .ok (.istore 5, 2) := by decide +kernel
theorem dX2_leavesWay_9 : decode cX2_leavesWay 9 = .ok (.iload 5, 2) := by decide +kernel
theorem dX2_leavesWay_11 : decode cX2_leavesWay 11 = .ok (.iload 4, 2) := by decide +kernel
theorem dX2_leavesWay_13 : decode cX2_leavesWay 13 = .ok (.if_icmp .ge 55, 3) := by decide +kernel
theorem dX2_leavesWay_16 : decode cX2_leavesWay 16 = .ok (.iload 5, 2) := by decide +kernel
theorem dX2_leavesWay_18 : decode cX2_leavesWay 18 = .ok (.aload_n 0, 1) := by decide +kernel
theorem dX2_leavesWay_19 : decode cX2_leavesWay 19 = .ok (.getfield 32, 3) := by decide +kernel
theorem dX2_leavesWay_22 : decode cX2_leavesWay 22 = .ok (.arraylength, 1) := by decide +kernel
theorem dX2_leavesWay_23 : decode cX2_leavesWay 23 = .ok (.if_icmp .ge 45, 3) := by decide +kernel
theorem dX2_leavesWay_26 : decode cX2_leavesWay 26 = .ok (.iload 5, 2) := by decide +kernel
theorem dX2_leavesWay_28 : decode cX2_leavesWay 28 = .ok (.aload_n 0, 1) := by decide +kernel
theorem dX2_leavesWay_29 : decode cX2_leavesWay 29 = .ok (.getfield 35, 3) := by decide +kernel
theorem dX2_leavesWay_32 : decode cX2_leavesWay 32 = .ok (.arraylength, 1) := by decide +kernel
theorem dX2_leavesWay_33 : decode cX2_leavesWay 33 = .ok (.if_icmp .ge 35, 3) := by decide +kernel
theorem dX2_leavesWay_36 : decode cX2_leavesWay 36 = .ok (.aload_n 0, 1) := by decide +kernel
theorem dX2_leavesWay_37 : decode cX2_leavesWay 37 = .ok (.getfield 32, 3) := by decide +kernel
theorem dX2_leavesWay_40 : decode cX2_leavesWay 40 = .ok (.iload 5, 2) := by decide +kernel
theorem dX2_leavesWay_42 : decode cX2_leavesWay 42 = .ok (.aload_n 2, 1) := by decide +kernel
theorem dX2_leavesWay_43 : decode cX2_leavesWay 43 = .ok (.aload_n 0, 1) := by decide +kernel
theorem dX2_leavesWay_44 : decode cX2_leavesWay 44 = .ok (.getfield 29, 3) := by decide +kernel
theorem dX2_leavesWay_47 : decode cX2_leavesWay 47 = .ok (.aload_n 0, 1) := by decide +kernel
theorem dX2_leavesWay_48 : decode cX2_leavesWay 48 = .ok (.getfield 35, 3) := by decide +kernel
theorem dX2_leavesWay_51 : decode cX2_leavesWay 51 = .ok (.iload 5, 2) := by decide +kernel
theorem dX2_leavesWay_53 : decode cX2_leavesWay 53 = .ok (.iaload, 1) := by decide +kernel
theorem dX2_leavesWay_54 : decode cX2_leavesWay 54 = .ok (.invokestatic 123, 3) := by decide +kernel
theorem dX2_leavesWay_57 : decode cX2_leavesWay 57 = .ok (.iload_n 3, 1) := by decide +kernel
theorem dX2_leavesWay_58 : decode cX2_leavesWay 58 = .ok (.invokevirtual 74, 3) := by decide +kernel
theorem dX2_leavesWay_61 : decode cX2_leavesWay 61 = .ok (.iastore, 1) := by decide +kernel
theorem dX2_leavesWay_62 : decode cX2_leavesWay 62 = .ok (.iinc 5 1, 3) := by decide +kernel
theorem dX2_leavesWay_65 : decode cX2_leavesWay 65 = .ok (.goto (-56), 3) := by decide +kernel
theorem dX2_leavesWay_68 : decode cX2_leavesWay 68 = .ok (.iconst 0, 1) := by decide +kernel
theorem dX2_leavesWay_69 : decode cX2_leavesWay 69 = .ok (.istore 5, 2) := by decide +kernel
theorem dX2_leavesWay_71 : decode cX2_leavesWay 71 = .ok (.iload 5, 2) := by decide +kernel
theorem dX2_leavesWay_73 : decode cX2_leavesWay 73 = .ok (.iload 4, 2) := by decide +kernel
theorem dX2_leavesWay_75 : decode cX2_leavesWay 75 = .ok (.if_icmp .ge 53, 3) := by decide +kernel
theorem dX2_leavesWay_78 : decode cX2_leavesWay 78 = .ok (.aload_n 2, 1) := by decide +kernel
theorem dX2_leavesWay_79 : decode cX2_leavesWay 79 = .ok (.aload_n 0, 1) := by decide +kernel
theorem dX2_leavesWay_80 : decode cX2_leavesWay 80 = .ok (.getfield 29, 3) := by decide +kernel
theorem dX2_leavesWay_83 : decode cX2_leavesWay 83 = .ok (.iconst 0, 1) := by decide +kernel
theorem dX2_leavesWay_84 : decode cX2_leavesWay 84 = .ok (.iaload, 1) := by decide +kernel
theorem dX2_leavesWay_85 : decode cX2_leavesWay 85 = .ok (.aload_n 0, 1) := by decide +kernel
theorem dX2_leavesWay_86 : decode cX2_leavesWay 86 = .ok (.getfield 32, 3) := by decide +kernel
theorem dX2_leavesWay_89 : decode cX2_leavesWay 89 = .ok (.aload_n 1, 1) := by decide +kernel
theorem dX2_leavesWay_90 : decode cX2_leavesWay 90 = .ok (.iconst 1, 1) := by decide +kernel
theorem dX2_leavesWay_91 : decode cX2_leavesWay 91 = .ok (.iconst 1, 1) := by decide +kernel
theorem dX2_leavesWay_92 : decode cX2_leavesWay 92 = .ok (.iload 5, 2) := by decide +kernel
theorem dX2_leavesWay_94 : decode cX2_leavesWay 94 = .ok (.ishl, 1) := by decide +kernel
theorem dX2_leavesWay_95 : decode cX2_leavesWay 95 = .ok (.invokevirtual 74, 3) := by decide +kernel
theorem dX2_leavesWay_98 : decode cX2_leavesWay 98 = .ok (.invokestatic 123, 3) := by decide +kernel
theorem dX2_leavesWay_101 : decode cX2_leavesWay 101 = .ok (.iconst 1, 1) := by decide +kernel
theorem dX2_leavesWay_102 : decode cX2_leavesWay 102 = .ok (.invokevirtual 95, 3) := by decide +kernel
theorem dX2_leavesWay_105 : decode cX2_leavesWay 105 = .ok (.istore 6, 2) := by decide +kernel
theorem dX2_leavesWay_107 : decode cX2_leavesWay 107 = .ok (.aload_n 0, 1) := by decide +kernel
theorem dX2_leavesWay_108 : decode cX2_leavesWay 108 = .ok (.aload_n 1, 1) := by decide +kernel
theorem dX2_leavesWay_109 : decode cX2_leavesWay 109 = .ok (.aload_n 2, 1) := by decide +kernel
theorem dX2_leavesWay_110 : decode cX2_leavesWay 110 = .ok (.iload 5, 2) := by decide +kernel
theorem dX2_leavesWay_112 : decode cX2_leavesWay 112 = .ok (.iload 6, 2) := by decide +kernel
theorem dX2_leavesWay_114 : decode cX2_leavesWay 114 = .ok (.invokevirtual 200, 3) := by decide +kernel
theorem dX2_leavesWay_117 : decode cX2_leavesWay 117 = .ok (.ifCond .ne 5, 3) := by decide +kernel
theorem dX2_leavesWay_120 : decode cX2_leavesWay 120 = .ok (.iconst 0, 1) := by decide +kernel
theorem dX2_leavesWay_121 : decode cX2_leavesWay 121 = .ok (.ireturn, 1) := by decide +kernel
theorem dX2_leavesWay_122 : decode cX2_leavesWay 122 = .ok (.iinc 5 1, 3) := by decide +kernel
theorem dX2_leavesWay_125 : decode cX2_leavesWay 125 = .ok (.goto (-54), 3) := by decide +kernel
theorem dX2_leavesWay_128 : decode cX2_leavesWay 128 = .ok (.iconst 1, 1) := by decide +kernel
theorem dX2_leavesWay_129 : decode cX2_leavesWay 129 = .ok (.ireturn, 1) := by decide +kernel
set_option maxRecDepth 20000 in
theorem ggX2_agrees_X1_bits : GoodIn wsX2_agrees wsX1_bits := goodIn_r _ [7, 8, 28, 29, 30, 31] (by decide +kernel) (by decide +kernel)
set_option maxRecDepth 20000 in
theorem gX2_agrees_X1_bits : GoodIn wsX2_agrees (wsV RX2 99 RX1 yX1_bits wsX1_bits) := goodIn_app (goodIn_of _ (by decide +kernel)) ggX2_agrees_X1_bits
set_option maxRecDepth 20000 in
theorem ggX2_agrees_X1_times : GoodIn wsX2_agrees wsX1_times := goodIn_r _ [12, 13, 14, 15, 6, 16, 28, 29, 30, 31] (by decide +kernel) (by decide +kernel)
set_option maxRecDepth 20000 in
theorem gX2_agrees_X1_times : GoodIn wsX2_agrees (wsV RX2 74 RX1 yX1_times wsX1_times) := goodIn_app (goodIn_of _ (by decide +kernel)) ggX2_agrees_X1_times
set_option maxRecDepth 20000 in
theorem ggX2_agrees_X2_sumOf : GoodIn wsX2_agrees wsX2_sumOf := goodIn_r _ [20] (by decide +kernel) (by decide +kernel)
set_option maxRecDepth 20000 in
theorem gX2_agrees_X2_sumOf : GoodIn wsX2_agrees (va_wsS RX2 123 yX2_sumOf wsX2_sumOf) := goodIn_app (goodIn_of _ (by decide +kernel)) ggX2_agrees_X2_sumOf
theorem dX2_agrees_0 : decode cX2_agrees 0 = .ok (.iconst 0, 1) := by decide +kernel
theorem dX2_agrees_1 : decode cX2_agrees 1 = .ok (.istore 5, 2) := by decide +kernel
theorem dX2_agrees_3 : decode cX2_agrees 3 = .ok (.iload 5, 2) := by decide +kernel
theorem dX2_agrees_5 : decode cX2_agrees 5 = .ok (.aload_n 1, 1) := by decide +kernel
theorem dX2_agrees_6 : decode cX2_agrees 6 = .ok (.invokevirtual 99, 3) := by decide +kernel
theorem dX2_agrees_9 : decode cX2_agrees 9 = .ok (.if_icmp .ge 55, 3) := by decide +kernel
theorem dX2_agrees_12 : decode cX2_agrees 12 = .ok (.iload 5, 2) := by decide +kernel
theorem dX2_agrees_14 : decode cX2_agrees 14 = .ok (.aload_n 0, 1) := by decide +kernel
theorem dX2_agrees_15 : decode cX2_agrees 15 = .ok (.getfield 29, 3) := by decide +kernel
theorem dX2_agrees_18 : decode cX2_agrees 18 = .ok (.arraylength, 1) := by decide +kernel
theorem dX2_agrees_19 : decode cX2_agrees 19 = .ok (.if_icmp .ge 45, 3) := by decide +kernel
theorem dX2_agrees_22 : decode cX2_agrees 22 = .ok (.aload_n 2, 1) := by decide +kernel
theorem dX2_agrees_23 : decode cX2_agrees 23 = .ok (.aload_n 0, 1) := by decide +kernel
theorem dX2_agrees_24 : decode cX2_agrees 24 = .ok (.getfield 29, 3) := by decide +kernel
theorem dX2_agrees_27 : decode cX2_agrees 27 = .ok (.iload 5, 2) := by decide +kernel
theorem dX2_agrees_29 : decode cX2_agrees 29 = .ok (.iaload, 1) := by decide +kernel
theorem dX2_agrees_30 : decode cX2_agrees 30 = .ok (.iload 4, 2) := by decide +kernel
theorem dX2_agrees_32 : decode cX2_agrees 32 = .ok (.invokevirtual 74, 3) := by decide +kernel
theorem dX2_agrees_35 : decode cX2_agrees 35 = .ok (.aload_n 0, 1) := by decide +kernel
theorem dX2_agrees_36 : decode cX2_agrees 36 = .ok (.getfield 32, 3) := by decide +kernel
theorem dX2_agrees_39 : decode cX2_agrees 39 = .ok (.aload_n 1, 1) := by decide +kernel
theorem dX2_agrees_40 : decode cX2_agrees 40 = .ok (.iconst 1, 1) := by decide +kernel
theorem dX2_agrees_41 : decode cX2_agrees 41 = .ok (.iload 5, 2) := by decide +kernel
theorem dX2_agrees_43 : decode cX2_agrees 43 = .ok (.ishl, 1) := by decide +kernel
theorem dX2_agrees_44 : decode cX2_agrees 44 = .ok (.iconst 1, 1) := by decide +kernel
theorem dX2_agrees_45 : decode cX2_agrees 45 = .ok (.iload_n 3, 1) := by decide +kernel
theorem dX2_agrees_46 : decode cX2_agrees 46 = .ok (.ishl, 1) := by decide +kernel
theorem dX2_agrees_47 : decode cX2_agrees 47 = .ok (.invokevirtual 74, 3) := by decide +kernel
theorem dX2_agrees_50 : decode cX2_agrees 50 = .ok (.invokestatic 123, 3) := by decide +kernel
theorem dX2_agrees_53 : decode cX2_agrees 53 = .ok (.if_icmp .eq 5, 3) := by decide +kernel
theorem dX2_agrees_56 : decode cX2_agrees 56 = .ok (.iconst 0, 1) := by decide +kernel
theorem dX2_agrees_57 : decode cX2_agrees 57 = .ok (.ireturn, 1) := by decide +kernel
theorem dX2_agrees_58 : decode cX2_agrees 58 = .ok (.iinc 5 1, 3) := by decide +kernel
theorem dX2_agrees_61 : decode cX2_agrees 61 = .ok (.goto (-58), 3) := by decide +kernel
theorem dX2_agrees_64 : decode cX2_agrees 64 = .ok (.iconst 1, 1) := by decide +kernel
theorem dX2_agrees_65 : decode cX2_agrees 65 = .ok (.ireturn, 1) := by decide +kernel
end
section
theorem dX3_init_0 : decode cX3_init 0 = .ok (.aload_n 0, 1) := by decide +kernel
theorem dX3_init_1 : decode cX3_init 1 = .ok (.invokespecial 1, 3) := by decide +kernel
theorem dX3_init_4 : decode cX3_init 4 = .ok (.aload_n 0, 1) := by decide +kernel
theorem dX3_init_5 : decode cX3_init 5 = .ok (.iconst 5, 1) := by decide +kernel
theorem dX3_init_6 : decode cX3_init 6 = .ok (.newarray .int, 2) := by decide +kernel
theorem dX3_init_8 : decode cX3_init 8 = .ok (.putfield 7, 3) := by decide +kernel
theorem dX3_init_11 : decode cX3_init 11 = .ok (.aload_n 0, 1) := by decide +kernel
theorem dX3_init_12 : decode cX3_init 12 = .ok (.bipush 80, 2) := by decide +kernel
theorem dX3_init_14 : decode cX3_init 14 = .ok (.newarray .int, 2) := by decide +kernel
theorem dX3_init_16 : decode cX3_init 16 = .ok (.putfield 13, 3) := by decide +kernel
theorem dX3_init_19 : decode cX3_init 19 = .ok (.aload_n 0, 1) := by decide +kernel
theorem dX3_init_20 : decode cX3_init 20 = .ok (.bipush 12, 2) := by decide +kernel
theorem dX3_init_22 : decode cX3_init 22 = .ok (.newarray .int, 2) := by decide +kernel
theorem dX3_init_24 : decode cX3_init 24 = .ok (.putfield 16, 3) := by decide +kernel
theorem dX3_init_27 : decode cX3_init 27 = .ok (.aload_n 0, 1) := by decide +kernel
theorem dX3_init_28 : decode cX3_init 28 = .ok (.sipush 128, 3) := by decide +kernel
theorem dX3_init_31 : decode cX3_init 31 = .ok (.newarray .int, 2) := by decide +kernel
theorem dX3_init_33 : decode cX3_init 33 = .ok (.putfield 19, 3) := by decide +kernel
theorem dX3_init_36 : decode cX3_init 36 = .ok (.aload_n 0, 1) := by decide +kernel
theorem dX3_init_37 : decode cX3_init 37 = .ok (.bipush 8, 2) := by decide +kernel
theorem dX3_init_39 : decode cX3_init 39 = .ok (.newarray .int, 2) := by decide +kernel
theorem dX3_init_41 : decode cX3_init 41 = .ok (.putfield 22, 3) := by decide +kernel
theorem dX3_init_44 : decode cX3_init 44 = .ok (.aload_n 0, 1) := by decide +kernel
theorem dX3_init_45 : decode cX3_init 45 = .ok (.bipush 8, 2) := by decide +kernel
theorem dX3_init_47 : decode cX3_init 47 = .ok (.newarray .int, 2) := by decide +kernel
theorem dX3_init_49 : decode cX3_init 49 = .ok (.putfield 25, 3) := by decide +kernel
theorem dX3_init_52 : decode cX3_init 52 = .ok (.aload_n 0, 1) := by decide +kernel
theorem dX3_init_53 : decode cX3_init 53 = .ok (.bipush 8, 2) := by decide +kernel
theorem dX3_init_55 : decode cX3_init 55 = .ok (.newarray .int, 2) := by decide +kernel
theorem dX3_init_57 : decode cX3_init 57 = .ok (.putfield 28, 3) := by decide +kernel
theorem dX3_init_60 : decode cX3_init 60 = .ok (.iconst 0, 1) := by decide +kernel
theorem dX3_init_61 : decode cX3_init 61 = .ok (.istore_n 1, 1) := by decide +kernel
theorem dX3_init_62 : decode cX3_init 62 = .ok (.iload_n 1, 1) := by decide +kernel
theorem dX3_init_63 : decode cX3_init 63 = .ok (.iconst 4, 1) := by decide +kernel
theorem dX3_init_64 : decode cX3_init 64 = .ok (.if_icmp .ge 26, 3) := by decide +kernel
theorem dX3_init_67 : decode cX3_init 67 = .ok (.aload_n 0, 1) := by decide +kernel
theorem dX3_init_68 : decode cX3_init 68 = .ok (.getfield 7, 3) := by decide +kernel
theorem dX3_init_71 : decode cX3_init 71 = .ok (.iload_n 1, 1) := by decide +kernel
theorem dX3_init_72 : decode cX3_init 72 = .ok (.iconst 1, 1) := by decide +kernel
theorem dX3_init_73 : decode cX3_init 73 = .ok (.iastore, 1) := by decide +kernel
theorem dX3_init_74 : decode cX3_init 74 = .ok (.aload_n 0, 1) := by decide +kernel
theorem dX3_init_75 : decode cX3_init 75 = .ok (.getfield 13, 3) := by decide +kernel
theorem dX3_init_78 : decode cX3_init 78 = .ok (.bipush 16, 2) := by decide +kernel
theorem dX3_init_80 : decode cX3_init 80 = .ok (.iload_n 1, 1) := by decide +kernel
theorem dX3_init_81 : decode cX3_init 81 = .ok (.imul, 1) := by decide +kernel
theorem dX3_init_82 : decode cX3_init 82 = .ok (.iconst 1, 1) := by decide +kernel
theorem dX3_init_83 : decode cX3_init 83 = .ok (.iastore, 1) := by decide +kernel
theorem dX3_init_84 : decode cX3_init 84 = .ok (.iinc 1 1, 3) := by decide +kernel
theorem dX3_init_87 : decode cX3_init 87 = .ok (.goto (-25), 3) := by decide +kernel
theorem dX3_init_90 : decode cX3_init 90 = .ok (.return_, 1) := by decide +kernel
theorem dX3_in_0 : decode cX3_in 0 = .ok (.iload_n 0, 1) := by decide +kernel
theorem dX3_in_1 : decode cX3_in 1 = .ok (.iload_n 1, 1) := by decide +kernel
theorem dX3_in_2 : decode cX3_in 2 = .ok (.if_icmp .lt 12, 3) := by decide +kernel
theorem dX3_in_5 : decode cX3_in 5 = .ok (.iload_n 0, 1) := by decide +kernel
theorem dX3_in_6 : decode cX3_in 6 = .ok (.iload_n 2, 1) := by decide +kernel
theorem dX3_in_7 : decode cX3_in 7 = .ok (.if_icmp .gt 7, 3) := by decide +kernel
theorem dX3_in_10 : decode cX3_in 10 = .ok (.iconst 1, 1) := by decide +kernel
theorem dX3_in_11 : decode cX3_in 11 = .ok (.goto 4, 3) := by decide +kernel
theorem dX3_in_14 : decode cX3_in 14 = .ok (.iconst 0, 1) := by decide +kernel
theorem dX3_in_15 : decode cX3_in 15 = .ok (.ireturn, 1) := by decide +kernel
set_option maxRecDepth 20000 in
theorem ggX3_isSlot_X3_in : GoodIn wsX3_isSlot wsX3_in := goodIn_r _ [4] (by decide +kernel) (by decide +kernel)
set_option maxRecDepth 20000 in
theorem gX3_isSlot_X3_in : GoodIn wsX3_isSlot (va_wsS RX3 31 yX3_in wsX3_in) := goodIn_app (goodIn_of _ (by decide +kernel)) ggX3_isSlot_X3_in
theorem dX3_isSlot_0 : decode cX3_isSlot 0 = .ok (.iload_n 0, 1) := by decide +kernel
theorem dX3_isSlot_1 : decode cX3_isSlot 1 = .ok (.iconst 0, 1) := by decide +kernel
theorem dX3_isSlot_2 : decode cX3_isSlot 2 = .ok (.iconst 3, 1) := by decide +kernel
theorem dX3_isSlot_3 : decode cX3_isSlot 3 = .ok (.invokestatic 31, 3) := by decide +kernel
theorem dX3_isSlot_6 : decode cX3_isSlot 6 = .ok (.ireturn, 1) := by decide +kernel
theorem dX3_numbers_0 : decode cX3_numbers 0 = .ok (.iconst 1, 1) := by decide +kernel
theorem dX3_numbers_1 : decode cX3_numbers 1 = .ok (.aload_n 0, 1) := by decide +kernel
theorem dX3_numbers_2 : decode cX3_numbers 2 = .ok (.getfield 7, 3) := by decide +kernel
theorem dX3_numbers_5 : decode cX3_numbers 5 = .ok (.iload_n 1, 1) := by decide +kernel
theorem dX3_numbers_6 : decode cX3_numbers 6 = .ok (.iaload, 1) := by decide +kernel
theorem dX3_numbers_7 : decode cX3_numbers 7 = .ok (.ishl, 1) := by decide +kernel
theorem dX3_numbers_8 : decode cX3_numbers 8 = .ok (.ireturn, 1) := by decide +kernel
set_option maxRecDepth 20000 in
theorem ggX3_isNumber_X3_numbers : GoodIn wsX3_isNumber wsX3_numbers := goodIn_r _ [5, 6, 10, 11, 12, 13, 14, 15, 16] (by decide +kernel) (by decide +kernel)
set_option maxRecDepth 20000 in
theorem gX3_isNumber_X3_numbers : GoodIn wsX3_isNumber (wsV RX3 35 RX3 yX3_numbers wsX3_numbers) := goodIn_app (goodIn_of _ (by decide +kernel)) ggX3_isNumber_X3_numbers
set_option maxRecDepth 20000 in
theorem ggX3_isNumber_X3_in : GoodIn wsX3_isNumber wsX3_in := goodIn_r _ [9] (by decide +kernel) (by decide +kernel)
set_option maxRecDepth 20000 in
theorem gX3_isNumber_X3_in : GoodIn wsX3_isNumber (va_wsS RX3 31 yX3_in wsX3_in) := goodIn_app (goodIn_of _ (by decide +kernel)) ggX3_isNumber_X3_in
theorem dX3_isNumber_0 : decode cX3_isNumber 0 = .ok (.iload_n 2, 1) := by decide +kernel
theorem dX3_isNumber_1 : decode cX3_isNumber 1 = .ok (.iconst 0, 1) := by decide +kernel
theorem dX3_isNumber_2 : decode cX3_isNumber 2 = .ok (.aload_n 0, 1) := by decide +kernel
theorem dX3_isNumber_3 : decode cX3_isNumber 3 = .ok (.iload_n 1, 1) := by decide +kernel
theorem dX3_isNumber_4 : decode cX3_isNumber 4 = .ok (.invokevirtual 35, 3) := by decide +kernel
theorem dX3_isNumber_7 : decode cX3_isNumber 7 = .ok (.iconst 1, 1) := by decide +kernel
theorem dX3_isNumber_8 : decode cX3_isNumber 8 = .ok (.isub, 1) := by decide +kernel
theorem dX3_isNumber_9 : decode cX3_isNumber 9 = .ok (.invokestatic 31, 3) := by decide +kernel
theorem dX3_isNumber_12 : decode cX3_isNumber 12 = .ok (.ireturn, 1) := by decide +kernel
theorem dX3_clear_0 : decode cX3_clear 0 = .ok (.aload_n 0, 1) := by decide +kernel
theorem dX3_clear_1 : decode cX3_clear 1 = .ok (.getfield 7, 3) := by decide +kernel
theorem dX3_clear_4 : decode cX3_clear 4 = .ok (.iload_n 1, 1) := by decide +kernel
theorem dX3_clear_5 : decode cX3_clear 5 = .ok (.iload_n 2, 1) := by decide +kernel
theorem dX3_clear_6 : decode cX3_clear 6 = .ok (.iastore, 1) := by decide +kernel
theorem dX3_clear_7 : decode cX3_clear 7 = .ok (.iconst 0, 1) := by decide +kernel
theorem dX3_clear_8 : decode cX3_clear 8 = .ok (.istore_n 3, 1) := by decide +kernel
theorem dX3_clear_9 : decode cX3_clear 9 = .ok (.iload_n 3, 1) := by decide +kernel
theorem dX3_clear_10 : decode cX3_clear 10 = .ok (.bipush 16, 2) := by decide +kernel
theorem dX3_clear_12 : decode cX3_clear 12 = .ok (.if_icmp .ge 21, 3) := by decide +kernel
theorem dX3_clear_15 : decode cX3_clear 15 = .ok (.aload_n 0, 1) := by decide +kernel
theorem dX3_clear_16 : decode cX3_clear 16 = .ok (.getfield 13, 3) := by decide +kernel
theorem dX3_clear_19 : decode cX3_clear 19 = .ok (.bipush 16, 2) := by decide +kernel
theorem dX3_clear_21 : decode cX3_clear 21 = .ok (.iload_n 1, 1) := by decide +kernel
theorem dX3_clear_22 : decode cX3_clear 22 = .ok (.imul, 1) := by decide +kernel
theorem dX3_clear_23 : decode cX3_clear 23 = .ok (.iload_n 3, 1) := by decide +kernel
theorem dX3_clear_24 : decode cX3_clear 24 = .ok (.iadd, 1) := by decide +kernel
theorem dX3_clear_25 : decode cX3_clear 25 = .ok (.iconst 0, 1) := by decide +kernel
theorem dX3_clear_26 : decode cX3_clear 26 = .ok (.iastore, 1) := by decide +kernel
theorem dX3_clear_27 : decode cX3_clear 27 = .ok (.iinc 3 1, 3) := by decide +kernel
theorem dX3_clear_30 : decode cX3_clear 30 = .ok (.goto (-21), 3) := by decide +kernel
theorem dX3_clear_33 : decode cX3_clear 33 = .ok (.return_, 1) := by decide +kernel
set_option maxRecDepth 20000 in
theorem ggX3_world_X3_isSlot : GoodIn wsX3_world wsX3_isSlot := goodIn_r _ [4, 5, 6, 3, 7] (by decide +kernel) (by decide +kernel)
set_option maxRecDepth 20000 in
theorem gX3_world_X3_isSlot : GoodIn wsX3_world (va_wsS RX3 39 yX3_isSlot wsX3_isSlot) := goodIn_app (goodIn_of _ (by decide +kernel)) ggX3_world_X3_isSlot
set_option maxRecDepth 20000 in
theorem ggX3_world_X3_in : GoodIn wsX3_world wsX3_in := goodIn_r _ [7] (by decide +kernel) (by decide +kernel)
set_option maxRecDepth 20000 in
theorem gX3_world_X3_in : GoodIn wsX3_world (va_wsS RX3 31 yX3_in wsX3_in) := goodIn_app (goodIn_of _ (by decide +kernel)) ggX3_world_X3_in
set_option maxRecDepth 20000 in
theorem ggX3_world_X3_clear : GoodIn wsX3_world wsX3_clear := goodIn_r _ [11, 12, 13, 14, 15, 16, 17, 18, 19, 20] (by decide +kernel) (by decide +kernel)
set_option maxRecDepth 20000 in
theorem gX3_world_X3_clear : GoodIn wsX3_world (wsV RX3 43 RX3 yX3_clear wsX3_clear) := goodIn_app (goodIn_of _ (by decide +kernel)) ggX3_world_X3_clear
theorem dX3_world_0 : decode cX3_world 0 = .ok (.iload_n 1, 1) := by decide +kernel
theorem dX3_world_1 : decode cX3_world 1 = .ok (.invokestatic 39, 3) := by decide +kernel
theorem dX3_world_4 : decode cX3_world 4 = .ok (.ifCond .ne 5, 3) := by decide +kernel
theorem dX3_world_7 : decode cX3_world 7 = .ok (.iconst (-1), 1) := by decide +kernel
theorem dX3_world_8 : decode cX3_world 8 = .ok (.ireturn, 1) := by decide +kernel
theorem dX3_world_9 : decode cX3_world 9 = .ok (.iload_n 2, 1) := by decide +kernel
theorem dX3_world_10 : decode cX3_world 10 = .ok (.iconst 1, 1) := by decide +kernel
theorem dX3_world_11 : decode cX3_world 11 = .ok (.iconst 4, 1) := by decide +kernel
theorem dX3_world_12 : decode cX3_world 12 = .ok (.invokestatic 31, 3) := by decide +kernel
theorem dX3_world_15 : decode cX3_world 15 = .ok (.ifCond .ne 6, 3) := by decide +kernel
theorem dX3_world_18 : decode cX3_world 18 = .ok (.bipush (-2), 2) := by decide +kernel
theorem dX3_world_20 : decode cX3_world 20 = .ok (.ireturn, 1) := by decide +kernel
theorem dX3_world_21 : decode cX3_world 21 = .ok (.aload_n 0, 1) := by decide +kernel
theorem dX3_world_22 : decode cX3_world 22 = .ok (.iload_n 1, 1) := by decide +kernel
theorem dX3_world_23 : decode cX3_world 23 = .ok (.iload_n 2, 1) := by decide +kernel
theorem dX3_world_24 : decode cX3_world 24 = .ok (.invokevirtual 43, 3) := by decide +kernel
theorem dX3_world_27 : decode cX3_world 27 = .ok (.iconst 1, 1) := by decide +kernel
theorem dX3_world_28 : decode cX3_world 28 = .ok (.iload_n 2, 1) := by decide +kernel
theorem dX3_world_29 : decode cX3_world 29 = .ok (.ishl, 1) := by decide +kernel
theorem dX3_world_30 : decode cX3_world 30 = .ok (.ireturn, 1) := by decide +kernel
set_option maxRecDepth 20000 in
theorem ggX3_put_X3_isSlot : GoodIn wsX3_put wsX3_isSlot := goodIn_r _ [6, 7, 8, 5, 9] (by decide +kernel) (by decide +kernel)
set_option maxRecDepth 20000 in
theorem gX3_put_X3_isSlot : GoodIn wsX3_put (va_wsS RX3 39 yX3_isSlot wsX3_isSlot) := goodIn_app (goodIn_of _ (by decide +kernel)) ggX3_put_X3_isSlot
set_option maxRecDepth 20000 in
theorem ggX3_put_X3_isNumber : GoodIn wsX3_put wsX3_isNumber := goodIn_r _ [13, 14, 15, 16, 5, 17, 1, 7, 8, 9, 18, 19, 20, 21, 22, 23, 24] (by decide +kernel) (by decide +kernel)
set_option maxRecDepth 20000 in
theorem gX3_put_X3_isNumber : GoodIn wsX3_put (wsV RX3 47 RX3 yX3_isNumber wsX3_isNumber) := goodIn_app (goodIn_of _ (by decide +kernel)) ggX3_put_X3_isNumber
set_option maxRecDepth 20000 in
theorem ggX3_put_X3_in : GoodIn wsX3_put wsX3_in := goodIn_r _ [9] (by decide +kernel) (by decide +kernel)
set_option maxRecDepth 20000 in
theorem gX3_put_X3_in : GoodIn wsX3_put (va_wsS RX3 31 yX3_in wsX3_in) := goodIn_app (goodIn_of _ (by decide +kernel)) ggX3_put_X3_in
theorem dX3_put_0 : decode cX3_put 0 = .ok (.iload_n 1, 1) := by decide +kernel
theorem dX3_put_1 : decode cX3_put 1 = .ok (.invokestatic 39, 3) := by decide +kernel
theorem dX3_put_4 : decode cX3_put 4 = .ok (.ifCond .eq 13, 3) := by decide +kernel
theorem dX3_put_7 : decode cX3_put 7 = .ok (.aload_n 0, 1) := by decide +kernel
theorem dX3_put_8 : decode cX3_put 8 = .ok (.iload_n 1, 1) := by decide +kernel
theorem dX3_put_9 : decode cX3_put 9 = .ok (.iload 4, 2) := by decide +kernel
theorem dX3_put_11 : decode cX3_put 11 = .ok (.invokevirtual 47, 3) := by decide +kernel
theorem dX3_put_14 : decode cX3_put 14 = .ok (.ifCond .ne 5, 3) := by decide +kernel
theorem dX3_put_17 : decode cX3_put 17 = .ok (.iconst (-1), 1) := by decide +kernel
theorem dX3_put_18 : decode cX3_put 18 = .ok (.ireturn, 1) := by decide +kernel
theorem dX3_put_19 : decode cX3_put 19 = .ok (.iload_n 2, 1) := by decide +kernel
theorem dX3_put_20 : decode cX3_put 20 = .ok (.iconst 0, 1) := by decide +kernel
theorem dX3_put_21 : decode cX3_put 21 = .ok (.aload_n 0, 1) := by decide +kernel
theorem dX3_put_22 : decode cX3_put 22 = .ok (.getfield 7, 3) := by decide +kernel
theorem dX3_put_25 : decode cX3_put 25 = .ok (.iload_n 1, 1) := by decide +kernel
theorem dX3_put_26 : decode cX3_put 26 = .ok (.iaload, 1) := by decide +kernel
theorem dX3_put_27 : decode cX3_put 27 = .ok (.iconst 1, 1) := by decide +kernel
theorem dX3_put_28 : decode cX3_put 28 = .ok (.isub, 1) := by decide +kernel
theorem dX3_put_29 : decode cX3_put 29 = .ok (.invokestatic 31, 3) := by decide +kernel
theorem dX3_put_32 : decode cX3_put 32 = .ok (.ifCond .eq 19, 3) := by decide +kernel
theorem dX3_put_35 : decode cX3_put 35 = .ok (.iload_n 3, 1) := by decide +kernel
theorem dX3_put_36 : decode cX3_put 36 = .ok (.iconst 0, 1) := by decide +kernel
theorem dX3_put_37 : decode cX3_put 37 = .ok (.aload_n 0, 1) := by decide +kernel
theorem dX3_put_38 : decode cX3_put 38 = .ok (.getfield 7, 3) := by decide +kernel
theorem dX3_put_41 : decode cX3_put 41 = .ok (.iload_n 1, 1) := by decide +kernel
theorem dX3_put_42 : decode cX3_put 42 = .ok (.iaload, 1) := by decide +kernel
theorem dX3_put_43 : decode cX3_put 43 = .ok (.iconst 1, 1) := by decide +kernel
theorem dX3_put_44 : decode cX3_put 44 = .ok (.isub, 1) := by decide +kernel
theorem dX3_put_45 : decode cX3_put 45 = .ok (.invokestatic 31, 3) := by decide +kernel
theorem dX3_put_48 : decode cX3_put 48 = .ok (.ifCond .ne 6, 3) := by decide +kernel
theorem dX3_put_51 : decode cX3_put 51 = .ok (.bipush (-2), 2) := by decide +kernel
theorem dX3_put_53 : decode cX3_put 53 = .ok (.ireturn, 1) := by decide +kernel
theorem dX3_put_54 : decode cX3_put 54 = .ok (.bipush 16, 2) := by decide +kernel
theorem dX3_put_56 : decode cX3_put 56 = .ok (.iload_n 1, 1) := by decide +kernel
theorem dX3_put_57 : decode cX3_put 57 = .ok (.imul, 1) := by decide +kernel
theorem dX3_put_58 : decode cX3_put 58 = .ok (.iconst 4, 1) := by decide +kernel
theorem dX3_put_59 : decode cX3_put 59 = .ok (.iload_n 2, 1) := by decide +kernel
theorem dX3_put_60 : decode cX3_put 60 = .ok (.imul, 1) := by decide +kernel
theorem dX3_put_61 : decode cX3_put 61 = .ok (.iadd, 1) := by decide +kernel
theorem dX3_put_62 : decode cX3_put 62 = .ok (.iload_n 3, 1) := by decide +kernel
theorem dX3_put_63 : decode cX3_put 63 = .ok (.iadd, 1) := by decide +kernel
theorem dX3_put_64 : decode cX3_put 64 = .ok (.istore 5, 2) := by decide +kernel
theorem dX3_put_66 : decode cX3_put 66 = .ok (.aload_n 0, 1) := by decide +kernel
theorem dX3_put_67 : decode cX3_put 67 = .ok (.getfield 13, 3) := by decide +kernel
theorem dX3_put_70 : decode cX3_put 70 = .ok (.iload 5, 2) := by decide +kernel
theorem dX3_put_72 : decode cX3_put 72 = .ok (.iaload, 1) := by decide +kernel
theorem dX3_put_73 : decode cX3_put 73 = .ok (.istore 6, 2) := by decide +kernel
theorem dX3_put_75 : decode cX3_put 75 = .ok (.aload_n 0, 1) := by decide +kernel
theorem dX3_put_76 : decode cX3_put 76 = .ok (.getfield 13, 3) := by decide +kernel
theorem dX3_put_79 : decode cX3_put 79 = .ok (.iload 5, 2) := by decide +kernel
theorem dX3_put_81 : decode cX3_put 81 = .ok (.iload 4, 2) := by decide +kernel
theorem dX3_put_83 : decode cX3_put 83 = .ok (.iastore, 1) := by decide +kernel
theorem dX3_put_84 : decode cX3_put 84 = .ok (.iload 6, 2) := by decide +kernel
theorem dX3_put_86 : decode cX3_put 86 = .ok (.ireturn, 1) := by decide +kernel
set_option maxRecDepth 20000 in
theorem ggX3_field_X3_isSlot : GoodIn wsX3_field wsX3_isSlot := goodIn_r _ [5, 6, 7, 4, 8] (by decide +kernel) (by decide +kernel)
set_option maxRecDepth 20000 in
theorem gX3_field_X3_isSlot : GoodIn wsX3_field (va_wsS RX3 39 yX3_isSlot wsX3_isSlot) := goodIn_app (goodIn_of _ (by decide +kernel)) ggX3_field_X3_isSlot
set_option maxRecDepth 20000 in
theorem ggX3_field_X3_in : GoodIn wsX3_field wsX3_in := goodIn_r _ [8] (by decide +kernel) (by decide +kernel)
set_option maxRecDepth 20000 in
theorem gX3_field_X3_in : GoodIn wsX3_field (va_wsS RX3 31 yX3_in wsX3_in) := goodIn_app (goodIn_of _ (by decide +kernel)) ggX3_field_X3_in
set_option maxRecDepth 20000 in
theorem ggX3_field_X3_clear : GoodIn wsX3_field wsX3_clear := goodIn_r _ [12, 13, 1, 14, 15, 16, 17, 18, 19, 20] (by decide +kernel) (by decide +kernel)
set_option maxRecDepth 20000 in
theorem gX3_field_X3_clear : GoodIn wsX3_field (wsV RX3 43 RX3 yX3_clear wsX3_clear) := goodIn_app (goodIn_of _ (by decide +kernel)) ggX3_field_X3_clear
theorem dX3_field_0 : decode cX3_field 0 = .ok (.iload_n 1, 1) := by decide +kernel
theorem dX3_field_1 : decode cX3_field 1 = .ok (.invokestatic 39, 3) := by decide +kernel
theorem dX3_field_4 : decode cX3_field 4 = .ok (.ifCond .ne 5, 3) := by decide +kernel
theorem dX3_field_7 : decode cX3_field 7 = .ok (.iconst (-1), 1) := by decide +kernel
theorem dX3_field_8 : decode cX3_field 8 = .ok (.ireturn, 1) := by decide +kernel
theorem dX3_field_9 : decode cX3_field 9 = .ok (.iload_n 2, 1) := by decide +kernel
theorem dX3_field_10 : decode cX3_field 10 = .ok (.iconst 1, 1) := by decide +kernel
theorem dX3_field_11 : decode cX3_field 11 = .ok (.iconst 4, 1) := by decide +kernel
theorem dX3_field_12 : decode cX3_field 12 = .ok (.invokestatic 31, 3) := by decide +kernel
theorem dX3_field_15 : decode cX3_field 15 = .ok (.ifCond .ne 6, 3) := by decide +kernel
theorem dX3_field_18 : decode cX3_field 18 = .ok (.bipush (-2), 2) := by decide +kernel
theorem dX3_field_20 : decode cX3_field 20 = .ok (.ireturn, 1) := by decide +kernel
theorem dX3_field_21 : decode cX3_field 21 = .ok (.aload_n 0, 1) := by decide +kernel
theorem dX3_field_22 : decode cX3_field 22 = .ok (.iload_n 1, 1) := by decide +kernel
theorem dX3_field_23 : decode cX3_field 23 = .ok (.iload_n 2, 1) := by decide +kernel
theorem dX3_field_24 : decode cX3_field 24 = .ok (.invokevirtual 43, 3) := by decide +kernel
theorem dX3_field_27 : decode cX3_field 27 = .ok (.iconst 0, 1) := by decide +kernel
theorem dX3_field_28 : decode cX3_field 28 = .ok (.istore_n 3, 1) := by decide +kernel
theorem dX3_field_29 : decode cX3_field 29 = .ok (.iload_n 3, 1) := by decide +kernel
theorem dX3_field_30 : decode cX3_field 30 = .ok (.iload_n 2, 1) := by decide +kernel
theorem dX3_field_31 : decode cX3_field 31 = .ok (.if_icmp .ge 98, 3) := by decide +kernel
theorem dX3_field_34 : decode cX3_field 34 = .ok (.iconst 0, 1) := by decide +kernel
theorem dX3_field_35 : decode cX3_field 35 = .ok (.istore 4, 2) := by decide +kernel
theorem dX3_field_37 : decode cX3_field 37 = .ok (.iload 4, 2) := by decide +kernel
theorem dX3_field_39 : decode cX3_field 39 = .ok (.iload_n 2, 1) := by decide +kernel
theorem dX3_field_40 : decode cX3_field 40 = .ok (.if_icmp .ge 83, 3) := by decide +kernel
theorem dX3_field_43 : decode cX3_field 43 = .ok (.iconst 1, 1) := by decide +kernel
theorem dX3_field_44 : decode cX3_field 44 = .ok (.iload_n 3, 1) := by decide +kernel
theorem dX3_field_45 : decode cX3_field 45 = .ok (.iload 4, 2) := by decide +kernel
theorem dX3_field_47 : decode cX3_field 47 = .ok (.iadd, 1) := by decide +kernel
theorem dX3_field_48 : decode cX3_field 48 = .ok (.ishl, 1) := by decide +kernel
theorem dX3_field_49 : decode cX3_field 49 = .ok (.istore 5, 2) := by decide +kernel
theorem dX3_field_51 : decode cX3_field 51 = .ok (.bipush 6, 2) := by decide +kernel
theorem dX3_field_53 : decode cX3_field 53 = .ok (.istore 6, 2) := by decide +kernel
theorem dX3_field_55 : decode cX3_field 55 = .ok (.iload 6, 2) := by decide +kernel
theorem dX3_field_57 : decode cX3_field 57 = .ok (.iload_n 2, 1) := by decide +kernel
theorem dX3_field_58 : decode cX3_field 58 = .ok (.if_icmp .lt 41, 3) := by decide +kernel
theorem dX3_field_61 : decode cX3_field 61 = .ok (.iload 5, 2) := by decide +kernel
theorem dX3_field_63 : decode cX3_field 63 = .ok (.iload 6, 2) := by decide +kernel
theorem dX3_field_65 : decode cX3_field 65 = .ok (.ishr, 1) := by decide +kernel
theorem dX3_field_66 : decode cX3_field 66 = .ok (.iconst 1, 1) := by decide +kernel
theorem dX3_field_67 : decode cX3_field 67 = .ok (.iand, 1) := by decide +kernel
theorem dX3_field_68 : decode cX3_field 68 = .ok (.iconst 1, 1) := by decide +kernel
theorem dX3_field_69 : decode cX3_field 69 = .ok (.if_icmp .ne 20, 3) := by decide +kernel
theorem dX3_field_72 : decode cX3_field 72 = .ok (.iload 5, 2) := by decide +kernel
theorem dX3_field_74 : decode cX3_field 74 = .ok (.iconst 1, 1) := by decide +kernel
theorem dX3_field_75 : decode cX3_field 75 = .ok (.iload 6, 2) := by decide +kernel
theorem dX3_field_77 : decode cX3_field 77 = .ok (.ishl, 1) := by decide +kernel
theorem dX3_field_78 : decode cX3_field 78 = .ok (.ixor, 1) := by decide +kernel
theorem dX3_field_79 : decode cX3_field 79 = .ok (.iconst 3, 1) := by decide +kernel
theorem dX3_field_80 : decode cX3_field 80 = .ok (.iload 6, 2) := by decide +kernel
theorem dX3_field_82 : decode cX3_field 82 = .ok (.iload_n 2, 1) := by decide +kernel
theorem dX3_field_83 : decode cX3_field 83 = .ok (.isub, 1) := by decide +kernel
theorem dX3_field_84 : decode cX3_field 84 = .ok (.ishl, 1) := by decide +kernel
theorem dX3_field_85 : decode cX3_field 85 = .ok (.ixor, 1) := by decide +kernel
theorem dX3_field_86 : decode cX3_field 86 = .ok (.goto 5, 3) := by decide +kernel
theorem dX3_field_89 : decode cX3_field 89 = .ok (.iload 5, 2) := by decide +kernel
theorem dX3_field_91 : decode cX3_field 91 = .ok (.istore 5, 2) := by decide +kernel
theorem dX3_field_93 : decode cX3_field 93 = .ok (.iinc 6 (-1), 3) := by decide +kernel
theorem dX3_field_96 : decode cX3_field 96 = .ok (.goto (-41), 3) := by decide +kernel
theorem dX3_field_99 : decode cX3_field 99 = .ok (.aload_n 0, 1) := by decide +kernel
theorem dX3_field_100 : decode cX3_field 100 = .ok (.getfield 13, 3) := by decide +kernel
theorem dX3_field_103 : decode cX3_field 103 = .ok (.bipush 16, 2) := by decide +kernel
theorem dX3_field_105 : decode cX3_field 105 = .ok (.iload_n 1, 1) := by decide +kernel
theorem dX3_field_106 : decode cX3_field 106 = .ok (.imul, 1) := by decide +kernel
theorem dX3_field_107 : decode cX3_field 107 = .ok (.iconst 4, 1) := by decide +kernel
theorem dX3_field_108 : decode cX3_field 108 = .ok (.iload_n 3, 1) := by decide +kernel
theorem dX3_field_109 : decode cX3_field 109 = .ok (.imul, 1) := by decide +kernel
theorem dX3_field_110 : decode cX3_field 110 = .ok (.iadd, 1) := by decide +kernel
theorem dX3_field_111 : decode cX3_field 111 = .ok (.iload 4, 2) := by decide +kernel
theorem dX3_field_113 : decode cX3_field 113 = .ok (.iadd, 1) := by decide +kernel
theorem dX3_field_114 : decode cX3_field 114 = .ok (.iload 5, 2) := by decide +kernel
theorem dX3_field_116 : decode cX3_field 116 = .ok (.iastore, 1) := by decide +kernel
theorem dX3_field_117 : decode cX3_field 117 = .ok (.iinc 4 1, 3) := by decide +kernel
theorem dX3_field_120 : decode cX3_field 120 = .ok (.goto (-83), 3) := by decide +kernel
theorem dX3_field_123 : decode cX3_field 123 = .ok (.iinc 3 1, 3) := by decide +kernel
theorem dX3_field_126 : decode cX3_field 126 = .ok (.goto (-97), 3) := by decide +kernel
theorem dX3_field_129 : decode cX3_field 129 = .ok (.iconst 1, 1) := by decide +kernel
theorem dX3_field_130 : decode cX3_field 130 = .ok (.iload_n 2, 1) := by decide +kernel
theorem dX3_field_131 : decode cX3_field 131 = .ok (.ishl, 1) := by decide +kernel
theorem dX3_field_132 : decode cX3_field 132 = .ok (.ireturn, 1) := by decide +kernel
theorem dX3_times_0 : decode cX3_times 0 = .ok (.iconst 0, 1) := by decide +kernel
theorem dX3_times_1 : decode cX3_times 1 = .ok (.istore 4, 2) := by decide +kernel
theorem dX3_times_3 : decode cX3_times 3 = .ok (.iconst 0, 1) := by decide +kernel
theorem dX3_times_4 : decode cX3_times 4 = .ok (.istore 5, 2) := by decide +kernel
theorem dX3_times_6 : decode cX3_times 6 = .ok (.iload 5, 2) := by decide +kernel
theorem dX3_times_8 : decode cX3_times 8 = .ok (.aload_n 0, 1) := by decide +kernel
theorem dX3_times_9 : decode cX3_times 9 = .ok (.getfield 7, 3) := by decide +kernel
theorem dX3_times_12 : decode cX3_times 12 = .ok (.iload_n 1, 1) := by decide +kernel
theorem dX3_times_13 : decode cX3_times 13 = .ok (.iaload, 1) := by decide +kernel
theorem dX3_times_14 : decode cX3_times 14 = .ok (.if_icmp .ge 70, 3) := by decide +kernel
theorem dX3_times_17 : decode cX3_times 17 = .ok (.iconst 0, 1) := by decide +kernel
theorem dX3_times_18 : decode cX3_times 18 = .ok (.istore 6, 2) := by decide +kernel
theorem dX3_times_20 : decode cX3_times 20 = .ok (.iload 6, 2) := by decide +kernel
theorem dX3_times_22 : decode cX3_times 22 = .ok (.aload_n 0, 1) := by decide +kernel
theorem dX3_times_23 : decode cX3_times 23 = .ok (.getfield 7, 3) := by decide +kernel
theorem dX3_times_26 : decode cX3_times 26 = .ok (.iload_n 1, 1) := by decide +kernel
theorem dX3_times_27 : decode cX3_times 27 = .ok (.iaload, 1) := by decide +kernel
theorem dX3_times_28 : decode cX3_times 28 = .ok (.if_icmp .ge 50, 3) := by decide +kernel
theorem dX3_times_31 : decode cX3_times 31 = .ok (.iload 4, 2) := by decide +kernel
theorem dX3_times_33 : decode cX3_times 33 = .ok (.iload_n 2, 1) := by decide +kernel
theorem dX3_times_34 : decode cX3_times 34 = .ok (.iload 5, 2) := by decide +kernel
theorem dX3_times_36 : decode cX3_times 36 = .ok (.ishr, 1) := by decide +kernel
theorem dX3_times_37 : decode cX3_times 37 = .ok (.iload_n 3, 1) := by decide +kernel
theorem dX3_times_38 : decode cX3_times 38 = .ok (.iload 6, 2) := by decide +kernel
theorem dX3_times_40 : decode cX3_times 40 = .ok (.ishr, 1) := by decide +kernel
theorem dX3_times_41 : decode cX3_times 41 = .ok (.iand, 1) := by decide +kernel
theorem dX3_times_42 : decode cX3_times 42 = .ok (.iconst 1, 1) := by decide +kernel
theorem dX3_times_43 : decode cX3_times 43 = .ok (.iand, 1) := by decide +kernel
theorem dX3_times_44 : decode cX3_times 44 = .ok (.iconst 1, 1) := by decide +kernel
theorem dX3_times_45 : decode cX3_times 45 = .ok (.if_icmp .ne 23, 3) := by decide +kernel
theorem dX3_times_48 : decode cX3_times 48 = .ok (.aload_n 0, 1) := by decide +kernel
theorem dX3_times_49 : decode cX3_times 49 = .ok (.getfield 13, 3) := by decide +kernel
theorem dX3_times_52 : decode cX3_times 52 = .ok (.bipush 16, 2) := by decide +kernel
theorem dX3_times_54 : decode cX3_times 54 = .ok (.iload_n 1, 1) := by decide +kernel
theorem dX3_times_55 : decode cX3_times 55 = .ok (.imul, 1) := by decide +kernel
theorem dX3_times_56 : decode cX3_times 56 = .ok (.iconst 4, 1) := by decide +kernel
theorem dX3_times_57 : decode cX3_times 57 = .ok (.iload 5, 2) := by decide +kernel
theorem dX3_times_59 : decode cX3_times 59 = .ok (.imul, 1) := by decide +kernel
theorem dX3_times_60 : decode cX3_times 60 = .ok (.iadd, 1) := by decide +kernel
theorem dX3_times_61 : decode cX3_times 61 = .ok (.iload 6, 2) := by decide +kernel
theorem dX3_times_63 : decode cX3_times 63 = .ok (.iadd, 1) := by decide +kernel
theorem dX3_times_64 : decode cX3_times 64 = .ok (.iaload, 1) := by decide +kernel
theorem dX3_times_65 : decode cX3_times 65 = .ok (.goto 4, 3) := by decide +kernel
theorem dX3_times_68 : decode cX3_times 68 = .ok (.iconst 0, 1) := by decide +kernel
theorem dX3_times_69 : decode cX3_times 69 = .ok (.ixor, 1) := by decide +kernel
theorem dX3_times_70 : decode cX3_times 70 = .ok (.istore 4, 2) := by decide +kernel
theorem dX3_times_72 : decode cX3_times 72 = .ok (.iinc 6 1, 3) := by decide +kernel
theorem dX3_times_75 : decode cX3_times 75 = .ok (.goto (-55), 3) := by decide +kernel
theorem dX3_times_78 : decode cX3_times 78 = .ok (.iinc 5 1, 3) := by decide +kernel
theorem dX3_times_81 : decode cX3_times 81 = .ok (.goto (-75), 3) := by decide +kernel
theorem dX3_times_84 : decode cX3_times 84 = .ok (.iload 4, 2) := by decide +kernel
theorem dX3_times_86 : decode cX3_times 86 = .ok (.ireturn, 1) := by decide +kernel
set_option maxRecDepth 20000 in
theorem ggX3_product_X3_isSlot : GoodIn wsX3_product wsX3_isSlot := goodIn_r _ [4, 5, 6, 3, 7] (by decide +kernel) (by decide +kernel)
set_option maxRecDepth 20000 in
theorem gX3_product_X3_isSlot : GoodIn wsX3_product (va_wsS RX3 39 yX3_isSlot wsX3_isSlot) := goodIn_app (goodIn_of _ (by decide +kernel)) ggX3_product_X3_isSlot
set_option maxRecDepth 20000 in
theorem ggX3_product_X3_isNumber : GoodIn wsX3_product wsX3_isNumber := goodIn_r _ [11, 12, 13, 14, 3, 15, 16, 5, 6, 7, 22, 23, 24, 25, 26, 27, 28] (by decide +kernel) (by decide +kernel)
set_option maxRecDepth 20000 in
theorem gX3_product_X3_isNumber : GoodIn wsX3_product (wsV RX3 47 RX3 yX3_isNumber wsX3_isNumber) := goodIn_app (goodIn_of _ (by decide +kernel)) ggX3_product_X3_isNumber
set_option maxRecDepth 20000 in
theorem ggX3_product_X3_times : GoodIn wsX3_product wsX3_times := goodIn_r _ [20, 16, 21, 22, 23, 24, 25, 26, 27, 28] (by decide +kernel) (by decide +kernel)
set_option maxRecDepth 20000 in
theorem gX3_product_X3_times : GoodIn wsX3_product (wsV RX3 51 RX3 yX3_times wsX3_times) := goodIn_app (goodIn_of _ (by decide +kernel)) ggX3_product_X3_times
theorem dX3_product_0 : decode cX3_product 0 = .ok (.iload_n 1, 1) := by decide +kernel
theorem dX3_product_1 : decode cX3_product 1 = .ok (.invokestatic 39, 3) := by decide +kernel
theorem dX3_product_4 : decode cX3_product 4 = .ok (.ifCond .eq 31, 3) := by decide +kernel
theorem dX3_product_7 : decode cX3_product 7 = .ok (.aload_n 0, 1) := by decide +kernel
theorem dX3_product_8 : decode cX3_product 8 = .ok (.iload_n 1, 1) := by decide +kernel
theorem dX3_product_9 : decode cX3_product 9 = .ok (.iload_n 2, 1) := by decide +kernel
theorem dX3_product_10 : decode cX3_product 10 = .ok (.invokevirtual 47, 3) := by decide +kernel
theorem dX3_product_13 : decode cX3_product 13 = .ok (.ifCond .eq 22, 3) := by decide +kernel
theorem dX3_product_16 : decode cX3_product 16 = .ok (.aload_n 0, 1) := by decide +kernel
theorem dX3_product_17 : decode cX3_product 17 = .ok (.iload_n 1, 1) := by decide +kernel
theorem dX3_product_18 : decode cX3_product 18 = .ok (.iload_n 3, 1) := by decide +kernel
theorem dX3_product_19 : decode cX3_product 19 = .ok (.invokevirtual 47, 3) := by decide +kernel
theorem dX3_product_22 : decode cX3_product 22 = .ok (.ifCond .eq 13, 3) := by decide +kernel
theorem dX3_product_25 : decode cX3_product 25 = .ok (.aload_n 0, 1) := by decide +kernel
theorem dX3_product_26 : decode cX3_product 26 = .ok (.iload_n 1, 1) := by decide +kernel
theorem dX3_product_27 : decode cX3_product 27 = .ok (.iload_n 2, 1) := by decide +kernel
theorem dX3_product_28 : decode cX3_product 28 = .ok (.iload_n 3, 1) := by decide +kernel
theorem dX3_product_29 : decode cX3_product 29 = .ok (.invokevirtual 51, 3) := by decide +kernel
theorem dX3_product_32 : decode cX3_product 32 = .ok (.goto 4, 3) := by decide +kernel
theorem dX3_product_35 : decode cX3_product 35 = .ok (.iconst (-1), 1) := by decide +kernel
theorem dX3_product_36 : decode cX3_product 36 = .ok (.ireturn, 1) := by decide +kernel
set_option maxRecDepth 20000 in
theorem ggX3_firstBroken_X3_numbers : GoodIn wsX3_firstBroken wsX3_numbers := goodIn_r _ [5, 6, 12, 13, 14, 15, 16, 17, 18] (by decide +kernel) (by decide +kernel)
set_option maxRecDepth 20000 in
theorem gX3_firstBroken_X3_numbers : GoodIn wsX3_firstBroken (wsV RX3 35 RX3 yX3_numbers wsX3_numbers) := goodIn_app (goodIn_of _ (by decide +kernel)) ggX3_firstBroken_X3_numbers
set_option maxRecDepth 20000 in
theorem ggX3_firstBroken_X3_times : GoodIn wsX3_firstBroken wsX3_times := goodIn_r _ [10, 6, 11, 12, 13, 14, 15, 16, 17, 18] (by decide +kernel) (by decide +kernel)
set_option maxRecDepth 20000 in
theorem gX3_firstBroken_X3_times : GoodIn wsX3_firstBroken (wsV RX3 51 RX3 yX3_times wsX3_times) := goodIn_app (goodIn_of _ (by decide +kernel)) ggX3_firstBroken_X3_times
theorem dX3_firstBroken_0 : decode cX3_firstBroken 0 = .ok (.iconst 1, 1) := by decide +kernel
theorem dX3_firstBroken_1 : decode cX3_firstBroken 1 = .ok (.istore_n 2, 1) := by decide +kernel
theorem dX3_firstBroken_2 : decode cX3_firstBroken 2 = .ok (.iload_n 2, 1) := by decide +kernel
theorem dX3_firstBroken_3 : decode cX3_firstBroken 3 = .ok (.aload_n 0, 1) := by decide +kernel
theorem dX3_firstBroken_4 : decode cX3_firstBroken 4 = .ok (.iload_n 1, 1) := by decide +kernel
theorem dX3_firstBroken_5 : decode cX3_firstBroken 5 = .ok (.invokevirtual 35, 3) := by decide +kernel
theorem dX3_firstBroken_8 : decode cX3_firstBroken 8 = .ok (.if_icmp .ge 43, 3) := by decide +kernel
theorem dX3_firstBroken_11 : decode cX3_firstBroken 11 = .ok (.iconst 1, 1) := by decide +kernel
theorem dX3_firstBroken_12 : decode cX3_firstBroken 12 = .ok (.istore_n 3, 1) := by decide +kernel
theorem dX3_firstBroken_13 : decode cX3_firstBroken 13 = .ok (.iload_n 3, 1) := by decide +kernel
theorem dX3_firstBroken_14 : decode cX3_firstBroken 14 = .ok (.aload_n 0, 1) := by decide +kernel
theorem dX3_firstBroken_15 : decode cX3_firstBroken 15 = .ok (.iload_n 1, 1) := by decide +kernel
theorem dX3_firstBroken_16 : decode cX3_firstBroken 16 = .ok (.invokevirtual 35, 3) := by decide +kernel
theorem dX3_firstBroken_19 : decode cX3_firstBroken 19 = .ok (.if_icmp .ge 26, 3) := by decide +kernel
theorem dX3_firstBroken_22 : decode cX3_firstBroken 22 = .ok (.aload_n 0, 1) := by decide +kernel
theorem dX3_firstBroken_23 : decode cX3_firstBroken 23 = .ok (.iload_n 1, 1) := by decide +kernel
theorem dX3_firstBroken_24 : decode cX3_firstBroken 24 = .ok (.iload_n 2, 1) := by decide +kernel
theorem dX3_firstBroken_25 : decode cX3_firstBroken 25 = .ok (.iload_n 3, 1) := by decide +kernel
theorem dX3_firstBroken_26 : decode cX3_firstBroken 26 = .ok (.invokevirtual 51, 3) := by decide +kernel
theorem dX3_firstBroken_29 : decode cX3_firstBroken 29 = .ok (.ifCond .ne 10, 3) := by decide +kernel
theorem dX3_firstBroken_32 : decode cX3_firstBroken 32 = .ok (.bipush 16, 2) := by decide +kernel
theorem dX3_firstBroken_34 : decode cX3_firstBroken 34 = .ok (.iload_n 2, 1) := by decide +kernel
theorem dX3_firstBroken_35 : decode cX3_firstBroken 35 = .ok (.imul, 1) := by decide +kernel
theorem dX3_firstBroken_36 : decode cX3_firstBroken 36 = .ok (.iload_n 3, 1) := by decide +kernel
theorem dX3_firstBroken_37 : decode cX3_firstBroken 37 = .ok (.iadd, 1) := by decide +kernel
theorem dX3_firstBroken_38 : decode cX3_firstBroken 38 = .ok (.ireturn, 1) := by decide +kernel
theorem dX3_firstBroken_39 : decode cX3_firstBroken 39 = .ok (.iinc 3 1, 3) := by decide +kernel
theorem dX3_firstBroken_42 : decode cX3_firstBroken 42 = .ok (.goto (-29), 3) := by decide +kernel
theorem dX3_firstBroken_45 : decode cX3_firstBroken 45 = .ok (.iinc 2 1, 3) := by decide +kernel
theorem dX3_firstBroken_48 : decode cX3_firstBroken 48 = .ok (.goto (-46), 3) := by decide +kernel
theorem dX3_firstBroken_51 : decode cX3_firstBroken 51 = .ok (.bipush (-9), 2) := by decide +kernel
theorem dX3_firstBroken_53 : decode cX3_firstBroken 53 = .ok (.ireturn, 1) := by decide +kernel
set_option maxRecDepth 20000 in
theorem ggX3_divides_X3_isSlot : GoodIn wsX3_divides wsX3_isSlot := goodIn_r _ [4, 5, 6, 3, 7] (by decide +kernel) (by decide +kernel)
set_option maxRecDepth 20000 in
theorem gX3_divides_X3_isSlot : GoodIn wsX3_divides (va_wsS RX3 39 yX3_isSlot wsX3_isSlot) := goodIn_app (goodIn_of _ (by decide +kernel)) ggX3_divides_X3_isSlot
set_option maxRecDepth 20000 in
theorem ggX3_divides_X3_firstBroken : GoodIn wsX3_divides wsX3_firstBroken := goodIn_r _ [11, 12, 13, 14, 3, 15, 16, 17, 18, 19, 20, 21, 22, 23, 24, 25, 26, 27, 28] (by decide +kernel) (by decide +kernel)
set_option maxRecDepth 20000 in
theorem gX3_divides_X3_firstBroken : GoodIn wsX3_divides (wsV RX3 55 RX3 yX3_firstBroken wsX3_firstBroken) := goodIn_app (goodIn_of _ (by decide +kernel)) ggX3_divides_X3_firstBroken
theorem dX3_divides_0 : decode cX3_divides 0 = .ok (.iload_n 1, 1) := by decide +kernel
theorem dX3_divides_1 : decode cX3_divides 1 = .ok (.invokestatic 39, 3) := by decide +kernel
theorem dX3_divides_4 : decode cX3_divides 4 = .ok (.ifCond .ne 7, 3) := by decide +kernel
theorem dX3_divides_7 : decode cX3_divides 7 = .ok (.iconst (-1), 1) := by decide +kernel
theorem dX3_divides_8 : decode cX3_divides 8 = .ok (.goto 18, 3) := by decide +kernel
theorem dX3_divides_11 : decode cX3_divides 11 = .ok (.aload_n 0, 1) := by decide +kernel
theorem dX3_divides_12 : decode cX3_divides 12 = .ok (.iload_n 1, 1) := by decide +kernel
theorem dX3_divides_13 : decode cX3_divides 13 = .ok (.invokevirtual 55, 3) := by decide +kernel
theorem dX3_divides_16 : decode cX3_divides 16 = .ok (.bipush (-9), 2) := by decide +kernel
theorem dX3_divides_18 : decode cX3_divides 18 = .ok (.if_icmp .ne 7, 3) := by decide +kernel
theorem dX3_divides_21 : decode cX3_divides 21 = .ok (.iconst 1, 1) := by decide +kernel
theorem dX3_divides_22 : decode cX3_divides 22 = .ok (.goto 4, 3) := by decide +kernel
theorem dX3_divides_25 : decode cX3_divides 25 = .ok (.iconst 0, 1) := by decide +kernel
theorem dX3_divides_26 : decode cX3_divides 26 = .ok (.ireturn, 1) := by decide +kernel
set_option maxRecDepth 20000 in
theorem ggX3_broken_X3_isSlot : GoodIn wsX3_broken wsX3_isSlot := goodIn_r _ [4, 5, 6, 3, 7] (by decide +kernel) (by decide +kernel)
set_option maxRecDepth 20000 in
theorem gX3_broken_X3_isSlot : GoodIn wsX3_broken (va_wsS RX3 39 yX3_isSlot wsX3_isSlot) := goodIn_app (goodIn_of _ (by decide +kernel)) ggX3_broken_X3_isSlot
set_option maxRecDepth 20000 in
theorem ggX3_broken_X3_firstBroken : GoodIn wsX3_broken wsX3_firstBroken := goodIn_r _ [11, 12, 13, 14, 3, 15, 16, 17, 18, 19, 20, 21, 22, 23, 24, 25, 26, 27, 28] (by decide +kernel) (by decide +kernel)
set_option maxRecDepth 20000 in
theorem gX3_broken_X3_firstBroken : GoodIn wsX3_broken (wsV RX3 55 RX3 yX3_firstBroken wsX3_firstBroken) := goodIn_app (goodIn_of _ (by decide +kernel)) ggX3_broken_X3_firstBroken
theorem dX3_broken_0 : decode cX3_broken 0 = .ok (.iload_n 1, 1) := by decide +kernel
theorem dX3_broken_1 : decode cX3_broken 1 = .ok (.invokestatic 39, 3) := by decide +kernel
theorem dX3_broken_4 : decode cX3_broken 4 = .ok (.ifCond .ne 5, 3) := by decide +kernel
theorem dX3_broken_7 : decode cX3_broken 7 = .ok (.iconst (-1), 1) := by decide +kernel
theorem dX3_broken_8 : decode cX3_broken 8 = .ok (.ireturn, 1) := by decide +kernel
theorem dX3_broken_9 : decode cX3_broken 9 = .ok (.aload_n 0, 1) := by decide +kernel
theorem dX3_broken_10 : decode cX3_broken 10 = .ok (.iload_n 1, 1) := by decide +kernel
theorem dX3_broken_11 : decode cX3_broken 11 = .ok (.invokevirtual 55, 3) := by decide +kernel
theorem dX3_broken_14 : decode cX3_broken 14 = .ok (.istore_n 3, 1) := by decide +kernel
theorem dX3_broken_15 : decode cX3_broken 15 = .ok (.iload_n 3, 1) := by decide +kernel
theorem dX3_broken_16 : decode cX3_broken 16 = .ok (.bipush (-9), 2) := by decide +kernel
theorem dX3_broken_18 : decode cX3_broken 18 = .ok (.if_icmp .ne 8, 3) := by decide +kernel
theorem dX3_broken_21 : decode cX3_broken 21 = .ok (.bipush (-9), 2) := by decide +kernel
theorem dX3_broken_23 : decode cX3_broken 23 = .ok (.goto 18, 3) := by decide +kernel
theorem dX3_broken_26 : decode cX3_broken 26 = .ok (.iload_n 2, 1) := by decide +kernel
theorem dX3_broken_27 : decode cX3_broken 27 = .ok (.ifCond .eq 10, 3) := by decide +kernel
theorem dX3_broken_30 : decode cX3_broken 30 = .ok (.iload_n 3, 1) := by decide +kernel
theorem dX3_broken_31 : decode cX3_broken 31 = .ok (.bipush 16, 2) := by decide +kernel
theorem dX3_broken_33 : decode cX3_broken 33 = .ok (.irem, 1) := by decide +kernel
theorem dX3_broken_34 : decode cX3_broken 34 = .ok (.goto 7, 3) := by decide +kernel
theorem dX3_broken_37 : decode cX3_broken 37 = .ok (.iload_n 3, 1) := by decide +kernel
theorem dX3_broken_38 : decode cX3_broken 38 = .ok (.bipush 16, 2) := by decide +kernel
theorem dX3_broken_40 : decode cX3_broken 40 = .ok (.idiv, 1) := by decide +kernel
theorem dX3_broken_41 : decode cX3_broken 41 = .ok (.ireturn, 1) := by decide +kernel
set_option maxRecDepth 20000 in
theorem ggX3_one_X3_isSlot : GoodIn wsX3_one wsX3_isSlot := goodIn_r _ [4, 5, 6, 3, 7] (by decide +kernel) (by decide +kernel)
set_option maxRecDepth 20000 in
theorem gX3_one_X3_isSlot : GoodIn wsX3_one (va_wsS RX3 39 yX3_isSlot wsX3_isSlot) := goodIn_app (goodIn_of _ (by decide +kernel)) ggX3_one_X3_isSlot
set_option maxRecDepth 20000 in
theorem ggX3_one_X3_numbers : GoodIn wsX3_one wsX3_numbers := goodIn_r _ [11, 12, 18, 19, 20, 21, 22, 23, 24] (by decide +kernel) (by decide +kernel)
set_option maxRecDepth 20000 in
theorem gX3_one_X3_numbers : GoodIn wsX3_one (wsV RX3 35 RX3 yX3_numbers wsX3_numbers) := goodIn_app (goodIn_of _ (by decide +kernel)) ggX3_one_X3_numbers
set_option maxRecDepth 20000 in
theorem ggX3_one_X3_times : GoodIn wsX3_one wsX3_times := goodIn_r _ [16, 12, 17, 18, 19, 20, 21, 22, 23, 24] (by decide +kernel) (by decide +kernel)
set_option maxRecDepth 20000 in
theorem gX3_one_X3_times : GoodIn wsX3_one (wsV RX3 51 RX3 yX3_times wsX3_times) := goodIn_app (goodIn_of _ (by decide +kernel)) ggX3_one_X3_times
theorem dX3_one_0 : decode cX3_one 0 = .ok (.iload_n 1, 1) := by decide +kernel
theorem dX3_one_1 : decode cX3_one 1 = .ok (.invokestatic 39, 3) := by decide +kernel
theorem dX3_one_4 : decode cX3_one 4 = .ok (.ifCond .ne 5, 3) := by decide +kernel
theorem dX3_one_7 : decode cX3_one 7 = .ok (.iconst (-1), 1) := by decide +kernel
theorem dX3_one_8 : decode cX3_one 8 = .ok (.ireturn, 1) := by decide +kernel
theorem dX3_one_9 : decode cX3_one 9 = .ok (.iconst 0, 1) := by decide +kernel
theorem dX3_one_10 : decode cX3_one 10 = .ok (.istore_n 2, 1) := by decide +kernel
theorem dX3_one_11 : decode cX3_one 11 = .ok (.iload_n 2, 1) := by decide +kernel
theorem dX3_one_12 : decode cX3_one 12 = .ok (.aload_n 0, 1) := by decide +kernel
theorem dX3_one_13 : decode cX3_one 13 = .ok (.iload_n 1, 1) := by decide +kernel
theorem dX3_one_14 : decode cX3_one 14 = .ok (.invokevirtual 35, 3) := by decide +kernel
theorem dX3_one_17 : decode cX3_one 17 = .ok (.if_icmp .ge 72, 3) := by decide +kernel
theorem dX3_one_20 : decode cX3_one 20 = .ok (.iconst 1, 1) := by decide +kernel
theorem dX3_one_21 : decode cX3_one 21 = .ok (.istore_n 3, 1) := by decide +kernel
theorem dX3_one_22 : decode cX3_one 22 = .ok (.iconst 0, 1) := by decide +kernel
theorem dX3_one_23 : decode cX3_one 23 = .ok (.istore 4, 2) := by decide +kernel
theorem dX3_one_25 : decode cX3_one 25 = .ok (.iload 4, 2) := by decide +kernel
theorem dX3_one_27 : decode cX3_one 27 = .ok (.aload_n 0, 1) := by decide +kernel
theorem dX3_one_28 : decode cX3_one 28 = .ok (.iload_n 1, 1) := by decide +kernel
theorem dX3_one_29 : decode cX3_one 29 = .ok (.invokevirtual 35, 3) := by decide +kernel
theorem dX3_one_32 : decode cX3_one 32 = .ok (.if_icmp .ge 45, 3) := by decide +kernel
theorem dX3_one_35 : decode cX3_one 35 = .ok (.iload_n 3, 1) := by decide +kernel
theorem dX3_one_36 : decode cX3_one 36 = .ok (.ifCond .eq 41, 3) := by decide +kernel
theorem dX3_one_39 : decode cX3_one 39 = .ok (.aload_n 0, 1) := by decide +kernel
theorem dX3_one_40 : decode cX3_one 40 = .ok (.iload_n 1, 1) := by decide +kernel
theorem dX3_one_41 : decode cX3_one 41 = .ok (.iload_n 2, 1) := by decide +kernel
theorem dX3_one_42 : decode cX3_one 42 = .ok (.iload 4, 2) := by decide +kernel
theorem dX3_one_44 : decode cX3_one 44 = .ok (.invokevirtual 51, 3) := by decide +kernel
theorem dX3_one_47 : decode cX3_one 47 = .ok (.iload 4, 2) := by decide +kernel
theorem dX3_one_49 : decode cX3_one 49 = .ok (.if_icmp .ne 20, 3) := by decide +kernel
theorem dX3_one_52 : decode cX3_one 52 = .ok (.aload_n 0, 1) := by decide +kernel
theorem dX3_one_53 : decode cX3_one 53 = .ok (.iload_n 1, 1) := by decide +kernel
theorem dX3_one_54 : decode cX3_one 54 = .ok (.iload 4, 2) := by decide +kernel
theorem dX3_one_56 : decode cX3_one 56 = .ok (.iload_n 2, 1) := by decide +kernel
theorem dX3_one_57 : decode cX3_one 57 = .ok (.invokevirtual 51, 3) := by decide +kernel
theorem dX3_one_60 : decode cX3_one 60 = .ok (.iload 4, 2) := by decide +kernel
theorem dX3_one_62 : decode cX3_one 62 = .ok (.if_icmp .ne 7, 3) := by decide +kernel
theorem dX3_one_65 : decode cX3_one 65 = .ok (.iconst 1, 1) := by decide +kernel
theorem dX3_one_66 : decode cX3_one 66 = .ok (.goto 4, 3) := by decide +kernel
theorem dX3_one_69 : decode cX3_one 69 = .ok (.iconst 0, 1) := by decide +kernel
theorem dX3_one_70 : decode cX3_one 70 = .ok (.istore_n 3, 1) := by decide +kernel
theorem dX3_one_71 : decode cX3_one 71 = .ok (.iinc 4 1, 3) := by decide +kernel
theorem dX3_one_74 : decode cX3_one 74 = .ok (.goto (-49), 3) := by decide +kernel
theorem dX3_one_77 : decode cX3_one 77 = .ok (.iload_n 3, 1) := by decide +kernel
theorem dX3_one_78 : decode cX3_one 78 = .ok (.ifCond .eq 5, 3) := by decide +kernel
theorem dX3_one_81 : decode cX3_one 81 = .ok (.iload_n 2, 1) := by decide +kernel
theorem dX3_one_82 : decode cX3_one 82 = .ok (.ireturn, 1) := by decide +kernel
theorem dX3_one_83 : decode cX3_one 83 = .ok (.iinc 2 1, 3) := by decide +kernel
theorem dX3_one_86 : decode cX3_one 86 = .ok (.goto (-75), 3) := by decide +kernel
theorem dX3_one_89 : decode cX3_one 89 = .ok (.bipush (-9), 2) := by decide +kernel
theorem dX3_one_91 : decode cX3_one 91 = .ok (.ireturn, 1) := by decide +kernel
set_option maxRecDepth 20000 in
theorem ggX3_quotient_X3_isSlot : GoodIn wsX3_quotient wsX3_isSlot := goodIn_r _ [4, 5, 6, 3, 7] (by decide +kernel) (by decide +kernel)
set_option maxRecDepth 20000 in
theorem gX3_quotient_X3_isSlot : GoodIn wsX3_quotient (va_wsS RX3 39 yX3_isSlot wsX3_isSlot) := goodIn_app (goodIn_of _ (by decide +kernel)) ggX3_quotient_X3_isSlot
set_option maxRecDepth 20000 in
theorem ggX3_quotient_X3_isNumber : GoodIn wsX3_quotient wsX3_isNumber := goodIn_r _ [11, 12, 13, 14, 3, 15, 16, 5, 6, 7, 22, 23, 24, 25, 26, 27, 28] (by decide +kernel) (by decide +kernel)
set_option maxRecDepth 20000 in
theorem gX3_quotient_X3_isNumber : GoodIn wsX3_quotient (wsV RX3 47 RX3 yX3_isNumber wsX3_isNumber) := goodIn_app (goodIn_of _ (by decide +kernel)) ggX3_quotient_X3_isNumber
set_option maxRecDepth 20000 in
theorem ggX3_quotient_X3_numbers : GoodIn wsX3_quotient wsX3_numbers := goodIn_r _ [15, 16, 22, 23, 24, 25, 26, 27, 28] (by decide +kernel) (by decide +kernel)
set_option maxRecDepth 20000 in
theorem gX3_quotient_X3_numbers : GoodIn wsX3_quotient (wsV RX3 35 RX3 yX3_numbers wsX3_numbers) := goodIn_app (goodIn_of _ (by decide +kernel)) ggX3_quotient_X3_numbers
set_option maxRecDepth 20000 in
theorem ggX3_quotient_X3_times : GoodIn wsX3_quotient wsX3_times := goodIn_r _ [20, 16, 21, 22, 23, 24, 25, 26, 27, 28] (by decide +kernel) (by decide +kernel)
set_option maxRecDepth 20000 in
theorem gX3_quotient_X3_times : GoodIn wsX3_quotient (wsV RX3 51 RX3 yX3_times wsX3_times) := goodIn_app (goodIn_of _ (by decide +kernel)) ggX3_quotient_X3_times
theorem dX3_quotient_0 : decode cX3_quotient 0 = .ok (.iload_n 1, 1) := by decide +kernel
theorem dX3_quotient_1 : decode cX3_quotient 1 = .ok (.invokestatic 39, 3) := by decide +kernel
theorem dX3_quotient_4 : decode cX3_quotient 4 = .ok (.ifCond .eq 21, 3) := by decide +kernel
theorem dX3_quotient_7 : decode cX3_quotient 7 = .ok (.aload_n 0, 1) := by decide +kernel
theorem dX3_quotient_8 : decode cX3_quotient 8 = .ok (.iload_n 1, 1) := by decide +kernel
theorem dX3_quotient_9 : decode cX3_quotient 9 = .ok (.iload_n 2, 1) := by decide +kernel
theorem dX3_quotient_10 : decode cX3_quotient 10 = .ok (.invokevirtual 47, 3) := by decide +kernel
theorem dX3_quotient_13 : decode cX3_quotient 13 = .ok (.ifCond .eq 12, 3) := by decide +kernel
theorem dX3_quotient_16 : decode cX3_quotient 16 = .ok (.aload_n 0, 1) := by decide +kernel
theorem dX3_quotient_17 : decode cX3_quotient 17 = .ok (.iload_n 1, 1) := by decide +kernel
theorem dX3_quotient_18 : decode cX3_quotient 18 = .ok (.iload_n 3, 1) := by decide +kernel
theorem dX3_quotient_19 : decode cX3_quotient 19 = .ok (.invokevirtual 47, 3) := by decide +kernel
theorem dX3_quotient_22 : decode cX3_quotient 22 = .ok (.ifCond .ne 5, 3) := by decide +kernel
theorem dX3_quotient_25 : decode cX3_quotient 25 = .ok (.iconst (-1), 1) := by decide +kernel
theorem dX3_quotient_26 : decode cX3_quotient 26 = .ok (.ireturn, 1) := by decide +kernel
theorem dX3_quotient_27 : decode cX3_quotient 27 = .ok (.bipush (-9), 2) := by decide +kernel
theorem dX3_quotient_29 : decode cX3_quotient 29 = .ok (.istore 5, 2) := by decide +kernel
theorem dX3_quotient_31 : decode cX3_quotient 31 = .ok (.iconst 0, 1) := by decide +kernel
theorem dX3_quotient_32 : decode cX3_quotient 32 = .ok (.istore 6, 2) := by decide +kernel
theorem dX3_quotient_34 : decode cX3_quotient 34 = .ok (.iconst 0, 1) := by decide +kernel
theorem dX3_quotient_35 : decode cX3_quotient 35 = .ok (.istore 7, 2) := by decide +kernel
theorem dX3_quotient_37 : decode cX3_quotient 37 = .ok (.iload 7, 2) := by decide +kernel
theorem dX3_quotient_39 : decode cX3_quotient 39 = .ok (.aload_n 0, 1) := by decide +kernel
theorem dX3_quotient_40 : decode cX3_quotient 40 = .ok (.iload_n 1, 1) := by decide +kernel
theorem dX3_quotient_41 : decode cX3_quotient 41 = .ok (.invokevirtual 35, 3) := by decide +kernel
theorem dX3_quotient_44 : decode cX3_quotient 44 = .ok (.if_icmp .ge 44, 3) := by decide +kernel
theorem dX3_quotient_47 : decode cX3_quotient 47 = .ok (.iload 4, 2) := by decide +kernel
theorem dX3_quotient_49 : decode cX3_quotient 49 = .ok (.ifCond .eq 14, 3) := by decide +kernel
theorem dX3_quotient_52 : decode cX3_quotient 52 = .ok (.aload_n 0, 1) := by decide +kernel
theorem dX3_quotient_53 : decode cX3_quotient 53 = .ok (.iload_n 1, 1) := by decide +kernel
theorem dX3_quotient_54 : decode cX3_quotient 54 = .ok (.iload_n 2, 1) := by decide +kernel
theorem dX3_quotient_55 : decode cX3_quotient 55 = .ok (.iload 7, 2) := by decide +kernel
theorem dX3_quotient_57 : decode cX3_quotient 57 = .ok (.invokevirtual 51, 3) := by decide +kernel
theorem dX3_quotient_60 : decode cX3_quotient 60 = .ok (.goto 11, 3) := by decide +kernel
theorem dX3_quotient_63 : decode cX3_quotient 63 = .ok (.aload_n 0, 1) := by decide +kernel
theorem dX3_quotient_64 : decode cX3_quotient 64 = .ok (.iload_n 1, 1) := by decide +kernel
theorem dX3_quotient_65 : decode cX3_quotient 65 = .ok (.iload 7, 2) := by decide +kernel
theorem dX3_quotient_67 : decode cX3_quotient 67 = .ok (.iload_n 2, 1) := by decide +kernel
theorem dX3_quotient_68 : decode cX3_quotient 68 = .ok (.invokevirtual 51, 3) := by decide +kernel
theorem dX3_quotient_71 : decode cX3_quotient 71 = .ok (.iload_n 3, 1) := by decide +kernel
theorem dX3_quotient_72 : decode cX3_quotient 72 = .ok (.if_icmp .ne 10, 3) := by decide +kernel
theorem dX3_quotient_75 : decode cX3_quotient 75 = .ok (.iload 7, 2) := by decide +kernel
theorem dX3_quotient_77 : decode cX3_quotient 77 = .ok (.istore 5, 2) := by decide +kernel
theorem dX3_quotient_79 : decode cX3_quotient 79 = .ok (.iinc 6 1, 3) := by decide +kernel
theorem dX3_quotient_82 : decode cX3_quotient 82 = .ok (.iinc 7 1, 3) := by decide +kernel
theorem dX3_quotient_85 : decode cX3_quotient 85 = .ok (.goto (-48), 3) := by decide +kernel
theorem dX3_quotient_88 : decode cX3_quotient 88 = .ok (.iload 6, 2) := by decide +kernel
theorem dX3_quotient_90 : decode cX3_quotient 90 = .ok (.iconst 1, 1) := by decide +kernel
theorem dX3_quotient_91 : decode cX3_quotient 91 = .ok (.if_icmp .ne 8, 3) := by decide +kernel
theorem dX3_quotient_94 : decode cX3_quotient 94 = .ok (.iload 5, 2) := by decide +kernel
theorem dX3_quotient_96 : decode cX3_quotient 96 = .ok (.goto 5, 3) := by decide +kernel
theorem dX3_quotient_99 : decode cX3_quotient 99 = .ok (.bipush (-9), 2) := by decide +kernel
theorem dX3_quotient_101 : decode cX3_quotient 101 = .ok (.ireturn, 1) := by decide +kernel
theorem dX3_bit_0 : decode cX3_bit 0 = .ok (.aload_n 0, 1) := by decide +kernel
theorem dX3_bit_1 : decode cX3_bit 1 = .ok (.getfield 13, 3) := by decide +kernel
theorem dX3_bit_4 : decode cX3_bit 4 = .ok (.bipush 16, 2) := by decide +kernel
theorem dX3_bit_6 : decode cX3_bit 6 = .ok (.iload_n 1, 1) := by decide +kernel
theorem dX3_bit_7 : decode cX3_bit 7 = .ok (.imul, 1) := by decide +kernel
theorem dX3_bit_8 : decode cX3_bit 8 = .ok (.iconst 4, 1) := by decide +kernel
theorem dX3_bit_9 : decode cX3_bit 9 = .ok (.iload_n 2, 1) := by decide +kernel
theorem dX3_bit_10 : decode cX3_bit 10 = .ok (.imul, 1) := by decide +kernel
theorem dX3_bit_11 : decode cX3_bit 11 = .ok (.iadd, 1) := by decide +kernel
theorem dX3_bit_12 : decode cX3_bit 12 = .ok (.iload_n 3, 1) := by decide +kernel
theorem dX3_bit_13 : decode cX3_bit 13 = .ok (.iadd, 1) := by decide +kernel
theorem dX3_bit_14 : decode cX3_bit 14 = .ok (.iaload, 1) := by decide +kernel
theorem dX3_bit_15 : decode cX3_bit 15 = .ok (.iload 4, 2) := by decide +kernel
theorem dX3_bit_17 : decode cX3_bit 17 = .ok (.ishr, 1) := by decide +kernel
theorem dX3_bit_18 : decode cX3_bit 18 = .ok (.iconst 1, 1) := by decide +kernel
theorem dX3_bit_19 : decode cX3_bit 19 = .ok (.iand, 1) := by decide +kernel
theorem dX3_bit_20 : decode cX3_bit 20 = .ok (.ireturn, 1) := by decide +kernel
set_option maxRecDepth 20000 in
theorem ggX3_turned_X3_bit : GoodIn wsX3_turned wsX3_bit := goodIn_r _ [5, 6, 7, 8, 9, 10, 11, 12, 13] (by decide +kernel) (by decide +kernel)
set_option maxRecDepth 20000 in
theorem gX3_turned_X3_bit : GoodIn wsX3_turned (wsV RX3 58 RX3 yX3_bit wsX3_bit) := goodIn_app (goodIn_of _ (by decide +kernel)) ggX3_turned_X3_bit
theorem dX3_turned_0 : decode cX3_turned 0 = .ok (.iload_n 2, 1) := by decide +kernel
theorem dX3_turned_1 : decode cX3_turned 1 = .ok (.tableswitch 90 0 4 #[35, 46, 57, 68, 79], 35) := by decide +kernel
theorem dX3_turned_36 : decode cX3_turned 36 = .ok (.aload_n 0, 1) := by decide +kernel
theorem dX3_turned_37 : decode cX3_turned 37 = .ok (.iload_n 1, 1) := by decide +kernel
theorem dX3_turned_38 : decode cX3_turned 38 = .ok (.iload_n 3, 1) := by decide +kernel
theorem dX3_turned_39 : decode cX3_turned 39 = .ok (.iload 4, 2) := by decide +kernel
theorem dX3_turned_41 : decode cX3_turned 41 = .ok (.iload 5, 2) := by decide +kernel
theorem dX3_turned_43 : decode cX3_turned 43 = .ok (.invokevirtual 58, 3) := by decide +kernel
theorem dX3_turned_46 : decode cX3_turned 46 = .ok (.ireturn, 1) := by decide +kernel
theorem dX3_turned_47 : decode cX3_turned 47 = .ok (.aload_n 0, 1) := by decide +kernel
theorem dX3_turned_48 : decode cX3_turned 48 = .ok (.iload_n 1, 1) := by decide +kernel
theorem dX3_turned_49 : decode cX3_turned 49 = .ok (.iload_n 3, 1) := by decide +kernel
theorem dX3_turned_50 : decode cX3_turned 50 = .ok (.iload 5, 2) := by decide +kernel
theorem dX3_turned_52 : decode cX3_turned 52 = .ok (.iload 4, 2) := by decide +kernel
theorem dX3_turned_54 : decode cX3_turned 54 = .ok (.invokevirtual 58, 3) := by decide +kernel
theorem dX3_turned_57 : decode cX3_turned 57 = .ok (.ireturn, 1) := by decide +kernel
theorem dX3_turned_58 : decode cX3_turned 58 = .ok (.aload_n 0, 1) := by decide +kernel
theorem dX3_turned_59 : decode cX3_turned 59 = .ok (.iload_n 1, 1) := by decide +kernel
theorem dX3_turned_60 : decode cX3_turned 60 = .ok (.iload 4, 2) := by decide +kernel
theorem dX3_turned_62 : decode cX3_turned 62 = .ok (.iload_n 3, 1) := by decide +kernel
theorem dX3_turned_63 : decode cX3_turned 63 = .ok (.iload 5, 2) := by decide +kernel
theorem dX3_turned_65 : decode cX3_turned 65 = .ok (.invokevirtual 58, 3) := by decide +kernel
theorem dX3_turned_68 : decode cX3_turned 68 = .ok (.ireturn, 1) := by decide +kernel
theorem dX3_turned_69 : decode cX3_turned 69 = .ok (.aload_n 0, 1) := by decide +kernel
theorem dX3_turned_70 : decode cX3_turned 70 = .ok (.iload_n 1, 1) := by decide +kernel
theorem dX3_turned_71 : decode cX3_turned 71 = .ok (.iload 4, 2) := by decide +kernel
theorem dX3_turned_73 : decode cX3_turned 73 = .ok (.iload 5, 2) := by decide +kernel
theorem dX3_turned_75 : decode cX3_turned 75 = .ok (.iload_n 3, 1) := by decide +kernel
theorem dX3_turned_76 : decode cX3_turned 76 = .ok (.invokevirtual 58, 3) := by decide +kernel
theorem dX3_turned_79 : decode cX3_turned 79 = .ok (.ireturn, 1) := by decide +kernel
theorem dX3_turned_80 : decode cX3_turned 80 = .ok (.aload_n 0, 1) := by decide +kernel
theorem dX3_turned_81 : decode cX3_turned 81 = .ok (.iload_n 1, 1) := by decide +kernel
theorem dX3_turned_82 : decode cX3_turned 82 = .ok (.iload 5, 2) := by decide +kernel
theorem dX3_turned_84 : decode cX3_turned 84 = .ok (.iload_n 3, 1) := by decide +kernel
theorem dX3_turned_85 : decode cX3_turned 85 = .ok (.iload 4, 2) := by decide +kernel
theorem dX3_turned_87 : decode cX3_turned 87 = .ok (.invokevirtual 58, 3) := by decide +kernel
theorem dX3_turned_90 : decode cX3_turned 90 = .ok (.ireturn, 1) := by decide +kernel
theorem dX3_turned_91 : decode cX3_turned 91 = .ok (.aload_n 0, 1) := by decide +kernel
theorem dX3_turned_92 : decode cX3_turned 92 = .ok (.iload_n 1, 1) := by decide +kernel
theorem dX3_turned_93 : decode cX3_turned 93 = .ok (.iload 5, 2) := by decide +kernel
theorem dX3_turned_95 : decode cX3_turned 95 = .ok (.iload 4, 2) := by decide +kernel
theorem dX3_turned_97 : decode cX3_turned 97 = .ok (.iload_n 3, 1) := by decide +kernel
theorem dX3_turned_98 : decode cX3_turned 98 = .ok (.invokevirtual 58, 3) := by decide +kernel
theorem dX3_turned_101 : decode cX3_turned 101 = .ok (.ireturn, 1) := by decide +kernel
theorem dX3_copy_0 : decode cX3_copy 0 = .ok (.aload_n 0, 1) := by decide +kernel
theorem dX3_copy_1 : decode cX3_copy 1 = .ok (.getfield 7, 3) := by decide +kernel
theorem dX3_copy_4 : decode cX3_copy 4 = .ok (.iload_n 2, 1) := by decide +kernel
theorem dX3_copy_5 : decode cX3_copy 5 = .ok (.aload_n 0, 1) := by decide +kernel
theorem dX3_copy_6 : decode cX3_copy 6 = .ok (.getfield 7, 3) := by decide +kernel
theorem dX3_copy_9 : decode cX3_copy 9 = .ok (.iload_n 1, 1) := by decide +kernel
theorem dX3_copy_10 : decode cX3_copy 10 = .ok (.iaload, 1) := by decide +kernel
theorem dX3_copy_11 : decode cX3_copy 11 = .ok (.iastore, 1) := by decide +kernel
theorem dX3_copy_12 : decode cX3_copy 12 = .ok (.iconst 0, 1) := by decide +kernel
theorem dX3_copy_13 : decode cX3_copy 13 = .ok (.istore_n 3, 1) := by decide +kernel
theorem dX3_copy_14 : decode cX3_copy 14 = .ok (.iload_n 3, 1) := by decide +kernel
theorem dX3_copy_15 : decode cX3_copy 15 = .ok (.bipush 16, 2) := by decide +kernel
theorem dX3_copy_17 : decode cX3_copy 17 = .ok (.if_icmp .ge 31, 3) := by decide +kernel
theorem dX3_copy_20 : decode cX3_copy 20 = .ok (.aload_n 0, 1) := by decide +kernel
theorem dX3_copy_21 : decode cX3_copy 21 = .ok (.getfield 13, 3) := by decide +kernel
theorem dX3_copy_24 : decode cX3_copy 24 = .ok (.bipush 16, 2) := by decide +kernel
theorem dX3_copy_26 : decode cX3_copy 26 = .ok (.iload_n 2, 1) := by decide +kernel
theorem dX3_copy_27 : decode cX3_copy 27 = .ok (.imul, 1) := by decide +kernel
theorem dX3_copy_28 : decode cX3_copy 28 = .ok (.iload_n 3, 1) := by decide +kernel
theorem dX3_copy_29 : decode cX3_copy 29 = .ok (.iadd, 1) := by decide +kernel
theorem dX3_copy_30 : decode cX3_copy 30 = .ok (.aload_n 0, 1) := by decide +kernel
theorem dX3_copy_31 : decode cX3_copy 31 = .ok (.getfield 13, 3) := by decide +kernel
theorem dX3_copy_34 : decode cX3_copy 34 = .ok (.bipush 16, 2) := by decide +kernel
theorem dX3_copy_36 : decode cX3_copy 36 = .ok (.iload_n 1, 1) := by decide +kernel
theorem dX3_copy_37 : decode cX3_copy 37 = .ok (.imul, 1) := by decide +kernel
theorem dX3_copy_38 : decode cX3_copy 38 = .ok (.iload_n 3, 1) := by decide +kernel
theorem dX3_copy_39 : decode cX3_copy 39 = .ok (.iadd, 1) := by decide +kernel
theorem dX3_copy_40 : decode cX3_copy 40 = .ok (.iaload, 1) := by decide +kernel
theorem dX3_copy_41 : decode cX3_copy 41 = .ok (.iastore, 1) := by decide +kernel
theorem dX3_copy_42 : decode cX3_copy 42 = .ok (.iinc 3 1, 3) := by decide +kernel
theorem dX3_copy_45 : decode cX3_copy 45 = .ok (.goto (-31), 3) := by decide +kernel
theorem dX3_copy_48 : decode cX3_copy 48 = .ok (.return_, 1) := by decide +kernel
set_option maxRecDepth 20000 in
theorem ggX3_turn_X3_isSlot : GoodIn wsX3_turn wsX3_isSlot := goodIn_r _ [6, 7, 8, 5, 9] (by decide +kernel) (by decide +kernel)
set_option maxRecDepth 20000 in
theorem gX3_turn_X3_isSlot : GoodIn wsX3_turn (va_wsS RX3 39 yX3_isSlot wsX3_isSlot) := goodIn_app (goodIn_of _ (by decide +kernel)) ggX3_turn_X3_isSlot
set_option maxRecDepth 20000 in
theorem ggX3_turn_X3_in : GoodIn wsX3_turn wsX3_in := goodIn_r _ [9] (by decide +kernel) (by decide +kernel)
set_option maxRecDepth 20000 in
theorem gX3_turn_X3_in : GoodIn wsX3_turn (va_wsS RX3 31 yX3_in wsX3_in) := goodIn_app (goodIn_of _ (by decide +kernel)) ggX3_turn_X3_in
set_option maxRecDepth 20000 in
theorem ggX3_turn_X3_clear : GoodIn wsX3_turn wsX3_clear := goodIn_r _ [13, 1, 2, 26, 27, 28, 29, 30, 31, 32] (by decide +kernel) (by decide +kernel)
set_option maxRecDepth 20000 in
theorem gX3_turn_X3_clear : GoodIn wsX3_turn (wsV RX3 43 RX3 yX3_clear wsX3_clear) := goodIn_app (goodIn_of _ (by decide +kernel)) ggX3_turn_X3_clear
set_option maxRecDepth 20000 in
theorem ggX3_turn_X3_turned : GoodIn wsX3_turn wsX3_turned := goodIn_r _ [17, 18, 19, 20, 5, 21, 2, 26, 27, 28, 29, 30, 31, 32] (by decide +kernel) (by decide +kernel)
set_option maxRecDepth 20000 in
theorem gX3_turn_X3_turned : GoodIn wsX3_turn (wsV RX3 62 RX3 yX3_turned wsX3_turned) := goodIn_app (goodIn_of _ (by decide +kernel)) ggX3_turn_X3_turned
set_option maxRecDepth 20000 in
theorem ggX3_turn_X3_copy : GoodIn wsX3_turn wsX3_copy := goodIn_r _ [25, 1, 2, 26, 27, 28, 29, 30, 31, 32] (by decide +kernel) (by decide +kernel)
set_option maxRecDepth 20000 in
theorem gX3_turn_X3_copy : GoodIn wsX3_turn (wsV RX3 66 RX3 yX3_copy wsX3_copy) := goodIn_app (goodIn_of _ (by decide +kernel)) ggX3_turn_X3_copy
theorem dX3_turn_0 : decode cX3_turn 0 = .ok (.iload_n 1, 1) := by decide +kernel
theorem dX3_turn_1 : decode cX3_turn 1 = .ok (.invokestatic 39, 3) := by decide +kernel
theorem dX3_turn_4 : decode cX3_turn 4 = .ok (.ifCond .eq 10, 3) := by decide +kernel
theorem dX3_turn_7 : decode cX3_turn 7 = .ok (.iload_n 2, 1) := by decide +kernel
theorem dX3_turn_8 : decode cX3_turn 8 = .ok (.invokestatic 39, 3) := by decide +kernel
theorem dX3_turn_11 : decode cX3_turn 11 = .ok (.ifCond .ne 5, 3) := by decide +kernel
theorem dX3_turn_14 : decode cX3_turn 14 = .ok (.iconst (-1), 1) := by decide +kernel
theorem dX3_turn_15 : decode cX3_turn 15 = .ok (.ireturn, 1) := by decide +kernel
theorem dX3_turn_16 : decode cX3_turn 16 = .ok (.iload_n 3, 1) := by decide +kernel
theorem dX3_turn_17 : decode cX3_turn 17 = .ok (.iconst 0, 1) := by decide +kernel
theorem dX3_turn_18 : decode cX3_turn 18 = .ok (.iconst 5, 1) := by decide +kernel
theorem dX3_turn_19 : decode cX3_turn 19 = .ok (.invokestatic 31, 3) := by decide +kernel
theorem dX3_turn_22 : decode cX3_turn 22 = .ok (.ifCond .ne 6, 3) := by decide +kernel
theorem dX3_turn_25 : decode cX3_turn 25 = .ok (.bipush (-2), 2) := by decide +kernel
theorem dX3_turn_27 : decode cX3_turn 27 = .ok (.ireturn, 1) := by decide +kernel
theorem dX3_turn_28 : decode cX3_turn 28 = .ok (.aload_n 0, 1) := by decide +kernel
theorem dX3_turn_29 : decode cX3_turn 29 = .ok (.getfield 7, 3) := by decide +kernel
theorem dX3_turn_32 : decode cX3_turn 32 = .ok (.iload_n 2, 1) := by decide +kernel
theorem dX3_turn_33 : decode cX3_turn 33 = .ok (.iaload, 1) := by decide +kernel
theorem dX3_turn_34 : decode cX3_turn 34 = .ok (.istore 4, 2) := by decide +kernel
theorem dX3_turn_36 : decode cX3_turn 36 = .ok (.aload_n 0, 1) := by decide +kernel
theorem dX3_turn_37 : decode cX3_turn 37 = .ok (.iconst 4, 1) := by decide +kernel
theorem dX3_turn_38 : decode cX3_turn 38 = .ok (.iload 4, 2) := by decide +kernel
theorem dX3_turn_40 : decode cX3_turn 40 = .ok (.invokevirtual 43, 3) := by decide +kernel
theorem dX3_turn_43 : decode cX3_turn 43 = .ok (.iconst 0, 1) := by decide +kernel
theorem dX3_turn_44 : decode cX3_turn 44 = .ok (.istore 5, 2) := by decide +kernel
theorem dX3_turn_46 : decode cX3_turn 46 = .ok (.iload 5, 2) := by decide +kernel
theorem dX3_turn_48 : decode cX3_turn 48 = .ok (.iload 4, 2) := by decide +kernel
theorem dX3_turn_50 : decode cX3_turn 50 = .ok (.if_icmp .ge 74, 3) := by decide +kernel
theorem dX3_turn_53 : decode cX3_turn 53 = .ok (.iconst 0, 1) := by decide +kernel
theorem dX3_turn_54 : decode cX3_turn 54 = .ok (.istore 6, 2) := by decide +kernel
theorem dX3_turn_56 : decode cX3_turn 56 = .ok (.iload 6, 2) := by decide +kernel
theorem dX3_turn_58 : decode cX3_turn 58 = .ok (.iload 4, 2) := by decide +kernel
theorem dX3_turn_60 : decode cX3_turn 60 = .ok (.if_icmp .ge 58, 3) := by decide +kernel
theorem dX3_turn_63 : decode cX3_turn 63 = .ok (.iconst 0, 1) := by decide +kernel
theorem dX3_turn_64 : decode cX3_turn 64 = .ok (.istore 7, 2) := by decide +kernel
theorem dX3_turn_66 : decode cX3_turn 66 = .ok (.iload 7, 2) := by decide +kernel
theorem dX3_turn_68 : decode cX3_turn 68 = .ok (.iload 4, 2) := by decide +kernel
theorem dX3_turn_70 : decode cX3_turn 70 = .ok (.if_icmp .ge 42, 3) := by decide +kernel
theorem dX3_turn_73 : decode cX3_turn 73 = .ok (.aload_n 0, 1) := by decide +kernel
theorem dX3_turn_74 : decode cX3_turn 74 = .ok (.getfield 13, 3) := by decide +kernel
theorem dX3_turn_77 : decode cX3_turn 77 = .ok (.bipush 64, 2) := by decide +kernel
theorem dX3_turn_79 : decode cX3_turn 79 = .ok (.iconst 4, 1) := by decide +kernel
theorem dX3_turn_80 : decode cX3_turn 80 = .ok (.iload 5, 2) := by decide +kernel
theorem dX3_turn_82 : decode cX3_turn 82 = .ok (.imul, 1) := by decide +kernel
theorem dX3_turn_83 : decode cX3_turn 83 = .ok (.iadd, 1) := by decide +kernel
theorem dX3_turn_84 : decode cX3_turn 84 = .ok (.iload 6, 2) := by decide +kernel
theorem dX3_turn_86 : decode cX3_turn 86 = .ok (.iadd, 1) := by decide +kernel
theorem dX3_turn_87 : decode cX3_turn 87 = .ok (.dup2, 1) := by decide +kernel
theorem dX3_turn_88 : decode cX3_turn 88 = .ok (.iaload, 1) := by decide +kernel
theorem dX3_turn_89 : decode cX3_turn 89 = .ok (.aload_n 0, 1) := by decide +kernel
theorem dX3_turn_90 : decode cX3_turn 90 = .ok (.iload_n 2, 1) := by decide +kernel
theorem dX3_turn_91 : decode cX3_turn 91 = .ok (.iload_n 3, 1) := by decide +kernel
theorem dX3_turn_92 : decode cX3_turn 92 = .ok (.iload 5, 2) := by decide +kernel
theorem dX3_turn_94 : decode cX3_turn 94 = .ok (.iload 6, 2) := by decide +kernel
theorem dX3_turn_96 : decode cX3_turn 96 = .ok (.iload 7, 2) := by decide +kernel
theorem dX3_turn_98 : decode cX3_turn 98 = .ok (.invokevirtual 62, 3) := by decide +kernel
theorem dX3_turn_101 : decode cX3_turn 101 = .ok (.iload 7, 2) := by decide +kernel
theorem dX3_turn_103 : decode cX3_turn 103 = .ok (.ishl, 1) := by decide +kernel
theorem dX3_turn_104 : decode cX3_turn 104 = .ok (.ior, 1) := by decide +kernel
theorem dX3_turn_105 : decode cX3_turn 105 = .ok (.iastore, 1) := by decide +kernel
theorem dX3_turn_106 : decode cX3_turn 106 = .ok (.iinc 7 1, 3) := by decide +kernel
theorem dX3_turn_109 : decode cX3_turn 109 = .ok (.goto (-43), 3) := by decide +kernel
theorem dX3_turn_112 : decode cX3_turn 112 = .ok (.iinc 6 1, 3) := by decide +kernel
theorem dX3_turn_115 : decode cX3_turn 115 = .ok (.goto (-59), 3) := by decide +kernel
theorem dX3_turn_118 : decode cX3_turn 118 = .ok (.iinc 5 1, 3) := by decide +kernel
theorem dX3_turn_121 : decode cX3_turn 121 = .ok (.goto (-75), 3) := by decide +kernel
theorem dX3_turn_124 : decode cX3_turn 124 = .ok (.aload_n 0, 1) := by decide +kernel
theorem dX3_turn_125 : decode cX3_turn 125 = .ok (.iconst 4, 1) := by decide +kernel
theorem dX3_turn_126 : decode cX3_turn 126 = .ok (.iload_n 1, 1) := by decide +kernel
theorem dX3_turn_127 : decode cX3_turn 127 = .ok (.invokevirtual 66, 3) := by decide +kernel
theorem dX3_turn_130 : decode cX3_turn 130 = .ok (.iconst 1, 1) := by decide +kernel
theorem dX3_turn_131 : decode cX3_turn 131 = .ok (.ireturn, 1) := by decide +kernel
set_option maxRecDepth 20000 in
theorem ggX3_joinsTwo_X3_times : GoodIn wsX3_joinsTwo wsX3_times := goodIn_r _ [5, 6, 7, 8, 9, 10, 11, 12, 13, 14] (by decide +kernel) (by decide +kernel)
set_option maxRecDepth 20000 in
theorem gX3_joinsTwo_X3_times : GoodIn wsX3_joinsTwo (wsV RX3 51 RX3 yX3_times wsX3_times) := goodIn_app (goodIn_of _ (by decide +kernel)) ggX3_joinsTwo_X3_times
theorem dX3_joinsTwo_0 : decode cX3_joinsTwo 0 = .ok (.iload 5, 2) := by decide +kernel
theorem dX3_joinsTwo_2 : decode cX3_joinsTwo 2 = .ok (.lookupswitch 100 #[(0, 26), (1, 63)], 26) := by decide +kernel
theorem dX3_joinsTwo_28 : decode cX3_joinsTwo 28 = .ok (.aload_n 0, 1) := by decide +kernel
theorem dX3_joinsTwo_29 : decode cX3_joinsTwo 29 = .ok (.iload_n 1, 1) := by decide +kernel
theorem dX3_joinsTwo_30 : decode cX3_joinsTwo 30 = .ok (.iload_n 2, 1) := by decide +kernel
theorem dX3_joinsTwo_31 : decode cX3_joinsTwo 31 = .ok (.aload_n 0, 1) := by decide +kernel
theorem dX3_joinsTwo_32 : decode cX3_joinsTwo 32 = .ok (.iload_n 1, 1) := by decide +kernel
theorem dX3_joinsTwo_33 : decode cX3_joinsTwo 33 = .ok (.iload_n 3, 1) := by decide +kernel
theorem dX3_joinsTwo_34 : decode cX3_joinsTwo 34 = .ok (.iload 4, 2) := by decide +kernel
theorem dX3_joinsTwo_36 : decode cX3_joinsTwo 36 = .ok (.invokevirtual 51, 3) := by decide +kernel
theorem dX3_joinsTwo_39 : decode cX3_joinsTwo 39 = .ok (.invokevirtual 51, 3) := by decide +kernel
theorem dX3_joinsTwo_42 : decode cX3_joinsTwo 42 = .ok (.aload_n 0, 1) := by decide +kernel
theorem dX3_joinsTwo_43 : decode cX3_joinsTwo 43 = .ok (.iload_n 1, 1) := by decide +kernel
theorem dX3_joinsTwo_44 : decode cX3_joinsTwo 44 = .ok (.aload_n 0, 1) := by decide +kernel
theorem dX3_joinsTwo_45 : decode cX3_joinsTwo 45 = .ok (.iload_n 1, 1) := by decide +kernel
theorem dX3_joinsTwo_46 : decode cX3_joinsTwo 46 = .ok (.iload_n 2, 1) := by decide +kernel
theorem dX3_joinsTwo_47 : decode cX3_joinsTwo 47 = .ok (.iload_n 3, 1) := by decide +kernel
theorem dX3_joinsTwo_48 : decode cX3_joinsTwo 48 = .ok (.invokevirtual 51, 3) := by decide +kernel
theorem dX3_joinsTwo_51 : decode cX3_joinsTwo 51 = .ok (.iload 4, 2) := by decide +kernel
theorem dX3_joinsTwo_53 : decode cX3_joinsTwo 53 = .ok (.invokevirtual 51, 3) := by decide +kernel
theorem dX3_joinsTwo_56 : decode cX3_joinsTwo 56 = .ok (.if_icmp .ne 7, 3) := by decide +kernel
theorem dX3_joinsTwo_59 : decode cX3_joinsTwo 59 = .ok (.iconst 1, 1) := by decide +kernel
theorem dX3_joinsTwo_60 : decode cX3_joinsTwo 60 = .ok (.goto 4, 3) := by decide +kernel
theorem dX3_joinsTwo_63 : decode cX3_joinsTwo 63 = .ok (.iconst 0, 1) := by decide +kernel
theorem dX3_joinsTwo_64 : decode cX3_joinsTwo 64 = .ok (.ireturn, 1) := by decide +kernel
theorem dX3_joinsTwo_65 : decode cX3_joinsTwo 65 = .ok (.aload_n 0, 1) := by decide +kernel
theorem dX3_joinsTwo_66 : decode cX3_joinsTwo 66 = .ok (.iload_n 1, 1) := by decide +kernel
theorem dX3_joinsTwo_67 : decode cX3_joinsTwo 67 = .ok (.iload_n 3, 1) := by decide +kernel
theorem dX3_joinsTwo_68 : decode cX3_joinsTwo 68 = .ok (.aload_n 0, 1) := by decide +kernel
theorem dX3_joinsTwo_69 : decode cX3_joinsTwo 69 = .ok (.iload_n 1, 1) := by decide +kernel
theorem dX3_joinsTwo_70 : decode cX3_joinsTwo 70 = .ok (.iload_n 2, 1) := by decide +kernel
theorem dX3_joinsTwo_71 : decode cX3_joinsTwo 71 = .ok (.iload 4, 2) := by decide +kernel
theorem dX3_joinsTwo_73 : decode cX3_joinsTwo 73 = .ok (.invokevirtual 51, 3) := by decide +kernel
theorem dX3_joinsTwo_76 : decode cX3_joinsTwo 76 = .ok (.invokevirtual 51, 3) := by decide +kernel
theorem dX3_joinsTwo_79 : decode cX3_joinsTwo 79 = .ok (.aload_n 0, 1) := by decide +kernel
theorem dX3_joinsTwo_80 : decode cX3_joinsTwo 80 = .ok (.iload_n 1, 1) := by decide +kernel
theorem dX3_joinsTwo_81 : decode cX3_joinsTwo 81 = .ok (.aload_n 0, 1) := by decide +kernel
theorem dX3_joinsTwo_82 : decode cX3_joinsTwo 82 = .ok (.iload_n 1, 1) := by decide +kernel
theorem dX3_joinsTwo_83 : decode cX3_joinsTwo 83 = .ok (.iload_n 3, 1) := by decide +kernel
theorem dX3_joinsTwo_84 : decode cX3_joinsTwo 84 = .ok (.iload_n 2, 1) := by decide +kernel
theorem dX3_joinsTwo_85 : decode cX3_joinsTwo 85 = .ok (.invokevirtual 51, 3) := by decide +kernel
theorem dX3_joinsTwo_88 : decode cX3_joinsTwo 88 = .ok (.iload 4, 2) := by decide +kernel
theorem dX3_joinsTwo_90 : decode cX3_joinsTwo 90 = .ok (.invokevirtual 51, 3) := by decide +kernel
theorem dX3_joinsTwo_93 : decode cX3_joinsTwo 93 = .ok (.if_icmp .ne 7, 3) := by decide +kernel
theorem dX3_joinsTwo_96 : decode cX3_joinsTwo 96 = .ok (.iconst 1, 1) := by decide +kernel
theorem dX3_joinsTwo_97 : decode cX3_joinsTwo 97 = .ok (.goto 4, 3) := by decide +kernel
theorem dX3_joinsTwo_100 : decode cX3_joinsTwo 100 = .ok (.iconst 0, 1) := by decide +kernel
theorem dX3_joinsTwo_101 : decode cX3_joinsTwo 101 = .ok (.ireturn, 1) := by decide +kernel
theorem dX3_joinsTwo_102 : decode cX3_joinsTwo 102 = .ok (.aload_n 0, 1) := by decide +kernel
theorem dX3_joinsTwo_103 : decode cX3_joinsTwo 103 = .ok (.iload_n 1, 1) := by decide +kernel
theorem dX3_joinsTwo_104 : decode cX3_joinsTwo 104 = .ok (.iload_n 3, 1) := by decide +kernel
theorem dX3_joinsTwo_105 : decode cX3_joinsTwo 105 = .ok (.aload_n 0, 1) := by decide +kernel
theorem dX3_joinsTwo_106 : decode cX3_joinsTwo 106 = .ok (.iload_n 1, 1) := by decide +kernel
theorem dX3_joinsTwo_107 : decode cX3_joinsTwo 107 = .ok (.iload 4, 2) := by decide +kernel
theorem dX3_joinsTwo_109 : decode cX3_joinsTwo 109 = .ok (.iload_n 2, 1) := by decide +kernel
theorem dX3_joinsTwo_110 : decode cX3_joinsTwo 110 = .ok (.invokevirtual 51, 3) := by decide +kernel
theorem dX3_joinsTwo_113 : decode cX3_joinsTwo 113 = .ok (.invokevirtual 51, 3) := by decide +kernel
theorem dX3_joinsTwo_116 : decode cX3_joinsTwo 116 = .ok (.aload_n 0, 1) := by decide +kernel
theorem dX3_joinsTwo_117 : decode cX3_joinsTwo 117 = .ok (.iload_n 1, 1) := by decide +kernel
theorem dX3_joinsTwo_118 : decode cX3_joinsTwo 118 = .ok (.aload_n 0, 1) := by decide +kernel
theorem dX3_joinsTwo_119 : decode cX3_joinsTwo 119 = .ok (.iload_n 1, 1) := by decide +kernel
theorem dX3_joinsTwo_120 : decode cX3_joinsTwo 120 = .ok (.iload_n 3, 1) := by decide +kernel
theorem dX3_joinsTwo_121 : decode cX3_joinsTwo 121 = .ok (.iload 4, 2) := by decide +kernel
theorem dX3_joinsTwo_123 : decode cX3_joinsTwo 123 = .ok (.invokevirtual 51, 3) := by decide +kernel
theorem dX3_joinsTwo_126 : decode cX3_joinsTwo 126 = .ok (.iload_n 2, 1) := by decide +kernel
theorem dX3_joinsTwo_127 : decode cX3_joinsTwo 127 = .ok (.invokevirtual 51, 3) := by decide +kernel
theorem dX3_joinsTwo_130 : decode cX3_joinsTwo 130 = .ok (.if_icmp .ne 7, 3) := by decide +kernel
theorem dX3_joinsTwo_133 : decode cX3_joinsTwo 133 = .ok (.iconst 1, 1) := by decide +kernel
theorem dX3_joinsTwo_134 : decode cX3_joinsTwo 134 = .ok (.goto 4, 3) := by decide +kernel
theorem dX3_joinsTwo_137 : decode cX3_joinsTwo 137 = .ok (.iconst 0, 1) := by decide +kernel
theorem dX3_joinsTwo_138 : decode cX3_joinsTwo 138 = .ok (.ireturn, 1) := by decide +kernel
set_option maxRecDepth 20000 in
theorem ggX3_joinsAll_X3_numbers : GoodIn wsX3_joinsAll wsX3_numbers := goodIn_r _ [5, 6, 16, 17, 18, 19, 20, 21, 22] (by decide +kernel) (by decide +kernel)
set_option maxRecDepth 20000 in
theorem gX3_joinsAll_X3_numbers : GoodIn wsX3_joinsAll (wsV RX3 35 RX3 yX3_numbers wsX3_numbers) := goodIn_app (goodIn_of _ (by decide +kernel)) ggX3_joinsAll_X3_numbers
set_option maxRecDepth 20000 in
theorem ggX3_joinsAll_X3_times : GoodIn wsX3_joinsAll wsX3_times := goodIn_r _ [10, 6, 11, 16, 17, 18, 19, 20, 21, 22] (by decide +kernel) (by decide +kernel)
set_option maxRecDepth 20000 in
theorem gX3_joinsAll_X3_times : GoodIn wsX3_joinsAll (wsV RX3 51 RX3 yX3_times wsX3_times) := goodIn_app (goodIn_of _ (by decide +kernel)) ggX3_joinsAll_X3_times
set_option maxRecDepth 20000 in
theorem ggX3_joinsAll_X3_joinsTwo : GoodIn wsX3_joinsAll wsX3_joinsTwo := goodIn_r _ [15, 7, 8, 9, 4, 10, 6, 11, 16, 17, 18, 19, 20, 21, 22] (by decide +kernel) (by decide +kernel)
set_option maxRecDepth 20000 in
theorem gX3_joinsAll_X3_joinsTwo : GoodIn wsX3_joinsAll (wsV RX3 69 RX3 yX3_joinsTwo wsX3_joinsTwo) := goodIn_app (goodIn_of _ (by decide +kernel)) ggX3_joinsAll_X3_joinsTwo
theorem dX3_joinsAll_0 : decode cX3_joinsAll 0 = .ok (.iconst 1, 1) := by decide +kernel
theorem dX3_joinsAll_1 : decode cX3_joinsAll 1 = .ok (.istore 4, 2) := by decide +kernel
theorem dX3_joinsAll_3 : decode cX3_joinsAll 3 = .ok (.iconst 0, 1) := by decide +kernel
theorem dX3_joinsAll_4 : decode cX3_joinsAll 4 = .ok (.istore 5, 2) := by decide +kernel
theorem dX3_joinsAll_6 : decode cX3_joinsAll 6 = .ok (.iload 5, 2) := by decide +kernel
theorem dX3_joinsAll_8 : decode cX3_joinsAll 8 = .ok (.aload_n 0, 1) := by decide +kernel
theorem dX3_joinsAll_9 : decode cX3_joinsAll 9 = .ok (.iload_n 1, 1) := by decide +kernel
theorem dX3_joinsAll_10 : decode cX3_joinsAll 10 = .ok (.invokevirtual 35, 3) := by decide +kernel
theorem dX3_joinsAll_13 : decode cX3_joinsAll 13 = .ok (.if_icmp .ge 137, 3) := by decide +kernel
theorem dX3_joinsAll_16 : decode cX3_joinsAll 16 = .ok (.iload 4, 2) := by decide +kernel
theorem dX3_joinsAll_18 : decode cX3_joinsAll 18 = .ok (.ifCond .eq 132, 3) := by decide +kernel
theorem dX3_joinsAll_21 : decode cX3_joinsAll 21 = .ok (.iload_n 3, 1) := by decide +kernel
theorem dX3_joinsAll_22 : decode cX3_joinsAll 22 = .ok (.iconst 3, 1) := by decide +kernel
theorem dX3_joinsAll_23 : decode cX3_joinsAll 23 = .ok (.if_icmp .lt 22, 3) := by decide +kernel
theorem dX3_joinsAll_26 : decode cX3_joinsAll 26 = .ok (.aload_n 0, 1) := by decide +kernel
theorem dX3_joinsAll_27 : decode cX3_joinsAll 27 = .ok (.iload_n 1, 1) := by decide +kernel
theorem dX3_joinsAll_28 : decode cX3_joinsAll 28 = .ok (.iload_n 2, 1) := by decide +kernel
theorem dX3_joinsAll_29 : decode cX3_joinsAll 29 = .ok (.iload 5, 2) := by decide +kernel
theorem dX3_joinsAll_31 : decode cX3_joinsAll 31 = .ok (.invokevirtual 51, 3) := by decide +kernel
theorem dX3_joinsAll_34 : decode cX3_joinsAll 34 = .ok (.aload_n 0, 1) := by decide +kernel
theorem dX3_joinsAll_35 : decode cX3_joinsAll 35 = .ok (.iload_n 1, 1) := by decide +kernel
theorem dX3_joinsAll_36 : decode cX3_joinsAll 36 = .ok (.iload 5, 2) := by decide +kernel
theorem dX3_joinsAll_38 : decode cX3_joinsAll 38 = .ok (.iload_n 2, 1) := by decide +kernel
theorem dX3_joinsAll_39 : decode cX3_joinsAll 39 = .ok (.invokevirtual 51, 3) := by decide +kernel
theorem dX3_joinsAll_42 : decode cX3_joinsAll 42 = .ok (.if_icmp .ne 7, 3) := by decide +kernel
theorem dX3_joinsAll_45 : decode cX3_joinsAll 45 = .ok (.iconst 1, 1) := by decide +kernel
theorem dX3_joinsAll_46 : decode cX3_joinsAll 46 = .ok (.goto 4, 3) := by decide +kernel
theorem dX3_joinsAll_49 : decode cX3_joinsAll 49 = .ok (.iconst 0, 1) := by decide +kernel
theorem dX3_joinsAll_50 : decode cX3_joinsAll 50 = .ok (.istore 4, 2) := by decide +kernel
theorem dX3_joinsAll_52 : decode cX3_joinsAll 52 = .ok (.iconst 0, 1) := by decide +kernel
theorem dX3_joinsAll_53 : decode cX3_joinsAll 53 = .ok (.istore 6, 2) := by decide +kernel
theorem dX3_joinsAll_55 : decode cX3_joinsAll 55 = .ok (.iload 6, 2) := by decide +kernel
theorem dX3_joinsAll_57 : decode cX3_joinsAll 57 = .ok (.aload_n 0, 1) := by decide +kernel
theorem dX3_joinsAll_58 : decode cX3_joinsAll 58 = .ok (.iload_n 1, 1) := by decide +kernel
theorem dX3_joinsAll_59 : decode cX3_joinsAll 59 = .ok (.invokevirtual 35, 3) := by decide +kernel
theorem dX3_joinsAll_62 : decode cX3_joinsAll 62 = .ok (.if_icmp .ge 82, 3) := by decide +kernel
theorem dX3_joinsAll_65 : decode cX3_joinsAll 65 = .ok (.iload 4, 2) := by decide +kernel
theorem dX3_joinsAll_67 : decode cX3_joinsAll 67 = .ok (.ifCond .eq 77, 3) := by decide +kernel
theorem dX3_joinsAll_70 : decode cX3_joinsAll 70 = .ok (.iload_n 3, 1) := by decide +kernel
theorem dX3_joinsAll_71 : decode cX3_joinsAll 71 = .ok (.iconst 3, 1) := by decide +kernel
theorem dX3_joinsAll_72 : decode cX3_joinsAll 72 = .ok (.if_icmp .ne 53, 3) := by decide +kernel
theorem dX3_joinsAll_75 : decode cX3_joinsAll 75 = .ok (.aload_n 0, 1) := by decide +kernel
theorem dX3_joinsAll_76 : decode cX3_joinsAll 76 = .ok (.iload_n 1, 1) := by decide +kernel
theorem dX3_joinsAll_77 : decode cX3_joinsAll 77 = .ok (.iload_n 2, 1) := by decide +kernel
theorem dX3_joinsAll_78 : decode cX3_joinsAll 78 = .ok (.iload 5, 2) := by decide +kernel
theorem dX3_joinsAll_80 : decode cX3_joinsAll 80 = .ok (.iload 6, 2) := by decide +kernel
theorem dX3_joinsAll_82 : decode cX3_joinsAll 82 = .ok (.iconst 0, 1) := by decide +kernel
theorem dX3_joinsAll_83 : decode cX3_joinsAll 83 = .ok (.invokevirtual 69, 3) := by decide +kernel
theorem dX3_joinsAll_86 : decode cX3_joinsAll 86 = .ok (.ifCond .eq 35, 3) := by decide +kernel
theorem dX3_joinsAll_89 : decode cX3_joinsAll 89 = .ok (.aload_n 0, 1) := by decide +kernel
theorem dX3_joinsAll_90 : decode cX3_joinsAll 90 = .ok (.iload_n 1, 1) := by decide +kernel
theorem dX3_joinsAll_91 : decode cX3_joinsAll 91 = .ok (.iload_n 2, 1) := by decide +kernel
theorem dX3_joinsAll_92 : decode cX3_joinsAll 92 = .ok (.iload 5, 2) := by decide +kernel
theorem dX3_joinsAll_94 : decode cX3_joinsAll 94 = .ok (.iload 6, 2) := by decide +kernel
theorem dX3_joinsAll_96 : decode cX3_joinsAll 96 = .ok (.iconst 1, 1) := by decide +kernel
theorem dX3_joinsAll_97 : decode cX3_joinsAll 97 = .ok (.invokevirtual 69, 3) := by decide +kernel
theorem dX3_joinsAll_100 : decode cX3_joinsAll 100 = .ok (.ifCond .eq 21, 3) := by decide +kernel
theorem dX3_joinsAll_103 : decode cX3_joinsAll 103 = .ok (.aload_n 0, 1) := by decide +kernel
theorem dX3_joinsAll_104 : decode cX3_joinsAll 104 = .ok (.iload_n 1, 1) := by decide +kernel
theorem dX3_joinsAll_105 : decode cX3_joinsAll 105 = .ok (.iload_n 2, 1) := by decide +kernel
theorem dX3_joinsAll_106 : decode cX3_joinsAll 106 = .ok (.iload 5, 2) := by decide +kernel
theorem dX3_joinsAll_108 : decode cX3_joinsAll 108 = .ok (.iload 6, 2) := by decide +kernel
theorem dX3_joinsAll_110 : decode cX3_joinsAll 110 = .ok (.iconst 2, 1) := by decide +kernel
theorem dX3_joinsAll_111 : decode cX3_joinsAll 111 = .ok (.invokevirtual 69, 3) := by decide +kernel
theorem dX3_joinsAll_114 : decode cX3_joinsAll 114 = .ok (.ifCond .eq 7, 3) := by decide +kernel
theorem dX3_joinsAll_117 : decode cX3_joinsAll 117 = .ok (.iconst 1, 1) := by decide +kernel
theorem dX3_joinsAll_118 : decode cX3_joinsAll 118 = .ok (.goto 18, 3) := by decide +kernel
theorem dX3_joinsAll_121 : decode cX3_joinsAll 121 = .ok (.iconst 0, 1) := by decide +kernel
theorem dX3_joinsAll_122 : decode cX3_joinsAll 122 = .ok (.goto 14, 3) := by decide +kernel
theorem dX3_joinsAll_125 : decode cX3_joinsAll 125 = .ok (.aload_n 0, 1) := by decide +kernel
theorem dX3_joinsAll_126 : decode cX3_joinsAll 126 = .ok (.iload_n 1, 1) := by decide +kernel
theorem dX3_joinsAll_127 : decode cX3_joinsAll 127 = .ok (.iload_n 2, 1) := by decide +kernel
theorem dX3_joinsAll_128 : decode cX3_joinsAll 128 = .ok (.iload 5, 2) := by decide +kernel
theorem dX3_joinsAll_130 : decode cX3_joinsAll 130 = .ok (.iload 6, 2) := by decide +kernel
theorem dX3_joinsAll_132 : decode cX3_joinsAll 132 = .ok (.iload_n 3, 1) := by decide +kernel
theorem dX3_joinsAll_133 : decode cX3_joinsAll 133 = .ok (.invokevirtual 69, 3) := by decide +kernel
theorem dX3_joinsAll_136 : decode cX3_joinsAll 136 = .ok (.istore 4, 2) := by decide +kernel
theorem dX3_joinsAll_138 : decode cX3_joinsAll 138 = .ok (.iinc 6 1, 3) := by decide +kernel
theorem dX3_joinsAll_141 : decode cX3_joinsAll 141 = .ok (.goto (-86), 3) := by decide +kernel
theorem dX3_joinsAll_144 : decode cX3_joinsAll 144 = .ok (.iinc 5 1, 3) := by decide +kernel
theorem dX3_joinsAll_147 : decode cX3_joinsAll 147 = .ok (.goto (-141), 3) := by decide +kernel
theorem dX3_joinsAll_150 : decode cX3_joinsAll 150 = .ok (.iload 4, 2) := by decide +kernel
theorem dX3_joinsAll_152 : decode cX3_joinsAll 152 = .ok (.ireturn, 1) := by decide +kernel
set_option maxRecDepth 20000 in
theorem ggX3_joins_X3_isSlot : GoodIn wsX3_joins wsX3_isSlot := goodIn_r _ [4, 5, 6, 3, 7] (by decide +kernel) (by decide +kernel)
set_option maxRecDepth 20000 in
theorem gX3_joins_X3_isSlot : GoodIn wsX3_joins (va_wsS RX3 39 yX3_isSlot wsX3_isSlot) := goodIn_app (goodIn_of _ (by decide +kernel)) ggX3_joins_X3_isSlot
set_option maxRecDepth 20000 in
theorem ggX3_joins_X3_isNumber : GoodIn wsX3_joins wsX3_isNumber := goodIn_r _ [11, 12, 13, 14, 3, 15, 16, 5, 6, 7, 30, 31, 32, 33, 34, 35, 36] (by decide +kernel) (by decide +kernel)
set_option maxRecDepth 20000 in
theorem gX3_joins_X3_isNumber : GoodIn wsX3_joins (wsV RX3 47 RX3 yX3_isNumber wsX3_isNumber) := goodIn_app (goodIn_of _ (by decide +kernel)) ggX3_joins_X3_isNumber
set_option maxRecDepth 20000 in
theorem ggX3_joins_X3_in : GoodIn wsX3_joins wsX3_in := goodIn_r _ [7] (by decide +kernel) (by decide +kernel)
set_option maxRecDepth 20000 in
theorem gX3_joins_X3_in : GoodIn wsX3_joins (va_wsS RX3 31 yX3_in wsX3_in) := goodIn_app (goodIn_of _ (by decide +kernel)) ggX3_joins_X3_in
set_option maxRecDepth 20000 in
theorem ggX3_joins_X3_joinsAll : GoodIn wsX3_joins wsX3_joinsAll := goodIn_r _ [20, 12, 13, 14, 3, 15, 16, 21, 22, 23, 24, 25, 26, 27, 28, 29, 30, 31, 32, 33, 34, 35, 36] (by decide +kernel) (by decide +kernel)
set_option maxRecDepth 20000 in
theorem gX3_joins_X3_joinsAll : GoodIn wsX3_joins (wsV RX3 73 RX3 yX3_joinsAll wsX3_joinsAll) := goodIn_app (goodIn_of _ (by decide +kernel)) ggX3_joins_X3_joinsAll
theorem dX3_joins_0 : decode cX3_joins 0 = .ok (.iload_n 1, 1) := by decide +kernel
theorem dX3_joins_1 : decode cX3_joins 1 = .ok (.invokestatic 39, 3) := by decide +kernel
theorem dX3_joins_4 : decode cX3_joins 4 = .ok (.ifCond .eq 12, 3) := by decide +kernel
theorem dX3_joins_7 : decode cX3_joins 7 = .ok (.aload_n 0, 1) := by decide +kernel
theorem dX3_joins_8 : decode cX3_joins 8 = .ok (.iload_n 1, 1) := by decide +kernel
theorem dX3_joins_9 : decode cX3_joins 9 = .ok (.iload_n 2, 1) := by decide +kernel
theorem dX3_joins_10 : decode cX3_joins 10 = .ok (.invokevirtual 47, 3) := by decide +kernel
theorem dX3_joins_13 : decode cX3_joins 13 = .ok (.ifCond .ne 5, 3) := by decide +kernel
theorem dX3_joins_16 : decode cX3_joins 16 = .ok (.iconst (-1), 1) := by decide +kernel
theorem dX3_joins_17 : decode cX3_joins 17 = .ok (.ireturn, 1) := by decide +kernel
theorem dX3_joins_18 : decode cX3_joins 18 = .ok (.iload_n 3, 1) := by decide +kernel
theorem dX3_joins_19 : decode cX3_joins 19 = .ok (.iconst 0, 1) := by decide +kernel
theorem dX3_joins_20 : decode cX3_joins 20 = .ok (.iconst 3, 1) := by decide +kernel
theorem dX3_joins_21 : decode cX3_joins 21 = .ok (.invokestatic 31, 3) := by decide +kernel
theorem dX3_joins_24 : decode cX3_joins 24 = .ok (.ifCond .ne 8, 3) := by decide +kernel
theorem dX3_joins_27 : decode cX3_joins 27 = .ok (.bipush (-2), 2) := by decide +kernel
theorem dX3_joins_29 : decode cX3_joins 29 = .ok (.goto 18, 3) := by decide +kernel
theorem dX3_joins_32 : decode cX3_joins 32 = .ok (.aload_n 0, 1) := by decide +kernel
theorem dX3_joins_33 : decode cX3_joins 33 = .ok (.iload_n 1, 1) := by decide +kernel
theorem dX3_joins_34 : decode cX3_joins 34 = .ok (.iload_n 2, 1) := by decide +kernel
theorem dX3_joins_35 : decode cX3_joins 35 = .ok (.iload_n 3, 1) := by decide +kernel
theorem dX3_joins_36 : decode cX3_joins 36 = .ok (.invokevirtual 73, 3) := by decide +kernel
theorem dX3_joins_39 : decode cX3_joins 39 = .ok (.ifCond .eq 7, 3) := by decide +kernel
theorem dX3_joins_42 : decode cX3_joins 42 = .ok (.iconst 1, 1) := by decide +kernel
theorem dX3_joins_43 : decode cX3_joins 43 = .ok (.goto 4, 3) := by decide +kernel
theorem dX3_joins_46 : decode cX3_joins 46 = .ok (.iconst 0, 1) := by decide +kernel
theorem dX3_joins_47 : decode cX3_joins 47 = .ok (.ireturn, 1) := by decide +kernel
set_option maxRecDepth 20000 in
theorem ggX3_many_X3_isSlot : GoodIn wsX3_many wsX3_isSlot := goodIn_r _ [4, 5, 6, 3, 7] (by decide +kernel) (by decide +kernel)
set_option maxRecDepth 20000 in
theorem gX3_many_X3_isSlot : GoodIn wsX3_many (va_wsS RX3 39 yX3_isSlot wsX3_isSlot) := goodIn_app (goodIn_of _ (by decide +kernel)) ggX3_many_X3_isSlot
set_option maxRecDepth 20000 in
theorem ggX3_many_X3_in : GoodIn wsX3_many wsX3_in := goodIn_r _ [7] (by decide +kernel) (by decide +kernel)
set_option maxRecDepth 20000 in
theorem gX3_many_X3_in : GoodIn wsX3_many (va_wsS RX3 31 yX3_in wsX3_in) := goodIn_app (goodIn_of _ (by decide +kernel)) ggX3_many_X3_in
set_option maxRecDepth 20000 in
theorem ggX3_many_X3_numbers : GoodIn wsX3_many wsX3_numbers := goodIn_r _ [11, 12, 26, 27, 28, 29, 30, 31, 32] (by decide +kernel) (by decide +kernel)
set_option maxRecDepth 20000 in
theorem gX3_many_X3_numbers : GoodIn wsX3_many (wsV RX3 35 RX3 yX3_numbers wsX3_numbers) := goodIn_app (goodIn_of _ (by decide +kernel)) ggX3_many_X3_numbers
set_option maxRecDepth 20000 in
theorem ggX3_many_X3_joinsAll : GoodIn wsX3_many wsX3_joinsAll := goodIn_r _ [16, 8, 9, 10, 3, 11, 12, 17, 18, 19, 20, 21, 22, 23, 24, 25, 26, 27, 28, 29, 30, 31, 32] (by decide +kernel) (by decide +kernel)
set_option maxRecDepth 20000 in
theorem gX3_many_X3_joinsAll : GoodIn wsX3_many (wsV RX3 73 RX3 yX3_joinsAll wsX3_joinsAll) := goodIn_app (goodIn_of _ (by decide +kernel)) ggX3_many_X3_joinsAll
theorem dX3_many_0 : decode cX3_many 0 = .ok (.iload_n 1, 1) := by decide +kernel
theorem dX3_many_1 : decode cX3_many 1 = .ok (.invokestatic 39, 3) := by decide +kernel
theorem dX3_many_4 : decode cX3_many 4 = .ok (.ifCond .ne 5, 3) := by decide +kernel
theorem dX3_many_7 : decode cX3_many 7 = .ok (.iconst (-1), 1) := by decide +kernel
theorem dX3_many_8 : decode cX3_many 8 = .ok (.ireturn, 1) := by decide +kernel
theorem dX3_many_9 : decode cX3_many 9 = .ok (.iload_n 2, 1) := by decide +kernel
theorem dX3_many_10 : decode cX3_many 10 = .ok (.iconst 0, 1) := by decide +kernel
theorem dX3_many_11 : decode cX3_many 11 = .ok (.iconst 3, 1) := by decide +kernel
theorem dX3_many_12 : decode cX3_many 12 = .ok (.invokestatic 31, 3) := by decide +kernel
theorem dX3_many_15 : decode cX3_many 15 = .ok (.ifCond .ne 6, 3) := by decide +kernel
theorem dX3_many_18 : decode cX3_many 18 = .ok (.bipush (-2), 2) := by decide +kernel
theorem dX3_many_20 : decode cX3_many 20 = .ok (.ireturn, 1) := by decide +kernel
theorem dX3_many_21 : decode cX3_many 21 = .ok (.iconst 0, 1) := by decide +kernel
theorem dX3_many_22 : decode cX3_many 22 = .ok (.istore_n 3, 1) := by decide +kernel
theorem dX3_many_23 : decode cX3_many 23 = .ok (.iconst 0, 1) := by decide +kernel
theorem dX3_many_24 : decode cX3_many 24 = .ok (.istore 4, 2) := by decide +kernel
theorem dX3_many_26 : decode cX3_many 26 = .ok (.iload 4, 2) := by decide +kernel
theorem dX3_many_28 : decode cX3_many 28 = .ok (.aload_n 0, 1) := by decide +kernel
theorem dX3_many_29 : decode cX3_many 29 = .ok (.iload_n 1, 1) := by decide +kernel
theorem dX3_many_30 : decode cX3_many 30 = .ok (.invokevirtual 35, 3) := by decide +kernel
theorem dX3_many_33 : decode cX3_many 33 = .ok (.if_icmp .ge 28, 3) := by decide +kernel
theorem dX3_many_36 : decode cX3_many 36 = .ok (.iload_n 3, 1) := by decide +kernel
theorem dX3_many_37 : decode cX3_many 37 = .ok (.aload_n 0, 1) := by decide +kernel
theorem dX3_many_38 : decode cX3_many 38 = .ok (.iload_n 1, 1) := by decide +kernel
theorem dX3_many_39 : decode cX3_many 39 = .ok (.iload 4, 2) := by decide +kernel
theorem dX3_many_41 : decode cX3_many 41 = .ok (.iload_n 2, 1) := by decide +kernel
theorem dX3_many_42 : decode cX3_many 42 = .ok (.invokevirtual 73, 3) := by decide +kernel
theorem dX3_many_45 : decode cX3_many 45 = .ok (.ifCond .eq 7, 3) := by decide +kernel
theorem dX3_many_48 : decode cX3_many 48 = .ok (.iconst 1, 1) := by decide +kernel
theorem dX3_many_49 : decode cX3_many 49 = .ok (.goto 4, 3) := by decide +kernel
theorem dX3_many_52 : decode cX3_many 52 = .ok (.iconst 0, 1) := by decide +kernel
theorem dX3_many_53 : decode cX3_many 53 = .ok (.iadd, 1) := by decide +kernel
theorem dX3_many_54 : decode cX3_many 54 = .ok (.istore_n 3, 1) := by decide +kernel
theorem dX3_many_55 : decode cX3_many 55 = .ok (.iinc 4 1, 3) := by decide +kernel
theorem dX3_many_58 : decode cX3_many 58 = .ok (.goto (-32), 3) := by decide +kernel
theorem dX3_many_61 : decode cX3_many 61 = .ok (.iload_n 3, 1) := by decide +kernel
theorem dX3_many_62 : decode cX3_many 62 = .ok (.ireturn, 1) := by decide +kernel
set_option maxRecDepth 20000 in
theorem ggX3_unlike_X3_isSlot : GoodIn wsX3_unlike wsX3_isSlot := goodIn_r _ [4, 5, 6, 3, 7] (by decide +kernel) (by decide +kernel)
set_option maxRecDepth 20000 in
theorem gX3_unlike_X3_isSlot : GoodIn wsX3_unlike (va_wsS RX3 39 yX3_isSlot wsX3_isSlot) := goodIn_app (goodIn_of _ (by decide +kernel)) ggX3_unlike_X3_isSlot
set_option maxRecDepth 20000 in
theorem ggX3_unlike_X3_numbers : GoodIn wsX3_unlike wsX3_numbers := goodIn_r _ [11, 12, 18, 19, 20, 21, 22, 23, 24] (by decide +kernel) (by decide +kernel)
set_option maxRecDepth 20000 in
theorem gX3_unlike_X3_numbers : GoodIn wsX3_unlike (wsV RX3 35 RX3 yX3_numbers wsX3_numbers) := goodIn_app (goodIn_of _ (by decide +kernel)) ggX3_unlike_X3_numbers
set_option maxRecDepth 20000 in
theorem ggX3_unlike_X3_times : GoodIn wsX3_unlike wsX3_times := goodIn_r _ [16, 12, 17, 18, 19, 20, 21, 22, 23, 24] (by decide +kernel) (by decide +kernel)
set_option maxRecDepth 20000 in
theorem gX3_unlike_X3_times : GoodIn wsX3_unlike (wsV RX3 51 RX3 yX3_times wsX3_times) := goodIn_app (goodIn_of _ (by decide +kernel)) ggX3_unlike_X3_times
theorem dX3_unlike_0 : decode cX3_unlike 0 = .ok (.iload_n 1, 1) := by decide +kernel
theorem dX3_unlike_1 : decode cX3_unlike 1 = .ok (.invokestatic 39, 3) := by decide +kernel
theorem dX3_unlike_4 : decode cX3_unlike 4 = .ok (.ifCond .ne 5, 3) := by decide +kernel
theorem dX3_unlike_7 : decode cX3_unlike 7 = .ok (.iconst (-1), 1) := by decide +kernel
theorem dX3_unlike_8 : decode cX3_unlike 8 = .ok (.ireturn, 1) := by decide +kernel
theorem dX3_unlike_9 : decode cX3_unlike 9 = .ok (.iconst 0, 1) := by decide +kernel
theorem dX3_unlike_10 : decode cX3_unlike 10 = .ok (.istore_n 2, 1) := by decide +kernel
theorem dX3_unlike_11 : decode cX3_unlike 11 = .ok (.iconst 0, 1) := by decide +kernel
theorem dX3_unlike_12 : decode cX3_unlike 12 = .ok (.istore_n 3, 1) := by decide +kernel
theorem dX3_unlike_13 : decode cX3_unlike 13 = .ok (.iload_n 3, 1) := by decide +kernel
theorem dX3_unlike_14 : decode cX3_unlike 14 = .ok (.aload_n 0, 1) := by decide +kernel
theorem dX3_unlike_15 : decode cX3_unlike 15 = .ok (.iload_n 1, 1) := by decide +kernel
theorem dX3_unlike_16 : decode cX3_unlike 16 = .ok (.invokevirtual 35, 3) := by decide +kernel
theorem dX3_unlike_19 : decode cX3_unlike 19 = .ok (.if_icmp .ge 55, 3) := by decide +kernel
theorem dX3_unlike_22 : decode cX3_unlike 22 = .ok (.iconst 0, 1) := by decide +kernel
theorem dX3_unlike_23 : decode cX3_unlike 23 = .ok (.istore 4, 2) := by decide +kernel
theorem dX3_unlike_25 : decode cX3_unlike 25 = .ok (.iload 4, 2) := by decide +kernel
theorem dX3_unlike_27 : decode cX3_unlike 27 = .ok (.aload_n 0, 1) := by decide +kernel
theorem dX3_unlike_28 : decode cX3_unlike 28 = .ok (.iload_n 1, 1) := by decide +kernel
theorem dX3_unlike_29 : decode cX3_unlike 29 = .ok (.invokevirtual 35, 3) := by decide +kernel
theorem dX3_unlike_32 : decode cX3_unlike 32 = .ok (.if_icmp .ge 36, 3) := by decide +kernel
theorem dX3_unlike_35 : decode cX3_unlike 35 = .ok (.iload_n 2, 1) := by decide +kernel
theorem dX3_unlike_36 : decode cX3_unlike 36 = .ok (.aload_n 0, 1) := by decide +kernel
theorem dX3_unlike_37 : decode cX3_unlike 37 = .ok (.iload_n 1, 1) := by decide +kernel
theorem dX3_unlike_38 : decode cX3_unlike 38 = .ok (.iload_n 3, 1) := by decide +kernel
theorem dX3_unlike_39 : decode cX3_unlike 39 = .ok (.iload 4, 2) := by decide +kernel
theorem dX3_unlike_41 : decode cX3_unlike 41 = .ok (.invokevirtual 51, 3) := by decide +kernel
theorem dX3_unlike_44 : decode cX3_unlike 44 = .ok (.aload_n 0, 1) := by decide +kernel
theorem dX3_unlike_45 : decode cX3_unlike 45 = .ok (.iload_n 1, 1) := by decide +kernel
theorem dX3_unlike_46 : decode cX3_unlike 46 = .ok (.iload 4, 2) := by decide +kernel
theorem dX3_unlike_48 : decode cX3_unlike 48 = .ok (.iload_n 3, 1) := by decide +kernel
theorem dX3_unlike_49 : decode cX3_unlike 49 = .ok (.invokevirtual 51, 3) := by decide +kernel
theorem dX3_unlike_52 : decode cX3_unlike 52 = .ok (.if_icmp .eq 7, 3) := by decide +kernel
theorem dX3_unlike_55 : decode cX3_unlike 55 = .ok (.iconst 1, 1) := by decide +kernel
theorem dX3_unlike_56 : decode cX3_unlike 56 = .ok (.goto 4, 3) := by decide +kernel
theorem dX3_unlike_59 : decode cX3_unlike 59 = .ok (.iconst 0, 1) := by decide +kernel
theorem dX3_unlike_60 : decode cX3_unlike 60 = .ok (.iadd, 1) := by decide +kernel
theorem dX3_unlike_61 : decode cX3_unlike 61 = .ok (.istore_n 2, 1) := by decide +kernel
theorem dX3_unlike_62 : decode cX3_unlike 62 = .ok (.iinc 4 1, 3) := by decide +kernel
theorem dX3_unlike_65 : decode cX3_unlike 65 = .ok (.goto (-40), 3) := by decide +kernel
theorem dX3_unlike_68 : decode cX3_unlike 68 = .ok (.iinc 3 1, 3) := by decide +kernel
theorem dX3_unlike_71 : decode cX3_unlike 71 = .ok (.goto (-58), 3) := by decide +kernel
theorem dX3_unlike_74 : decode cX3_unlike 74 = .ok (.iload_n 2, 1) := by decide +kernel
theorem dX3_unlike_75 : decode cX3_unlike 75 = .ok (.ireturn, 1) := by decide +kernel
set_option maxRecDepth 20000 in
theorem ggX3_isMap_X3_in : GoodIn wsX3_isMap wsX3_in := goodIn_r _ [4] (by decide +kernel) (by decide +kernel)
set_option maxRecDepth 20000 in
theorem gX3_isMap_X3_in : GoodIn wsX3_isMap (va_wsS RX3 31 yX3_in wsX3_in) := goodIn_app (goodIn_of _ (by decide +kernel)) ggX3_isMap_X3_in
theorem dX3_isMap_0 : decode cX3_isMap 0 = .ok (.iload_n 0, 1) := by decide +kernel
theorem dX3_isMap_1 : decode cX3_isMap 1 = .ok (.iconst 0, 1) := by decide +kernel
theorem dX3_isMap_2 : decode cX3_isMap 2 = .ok (.iconst 2, 1) := by decide +kernel
theorem dX3_isMap_3 : decode cX3_isMap 3 = .ok (.invokestatic 31, 3) := by decide +kernel
theorem dX3_isMap_6 : decode cX3_isMap 6 = .ok (.ireturn, 1) := by decide +kernel
set_option maxRecDepth 20000 in
theorem ggX3_map_X3_isMap : GoodIn wsX3_map wsX3_isMap := goodIn_r _ [5, 6, 7, 4, 8] (by decide +kernel) (by decide +kernel)
set_option maxRecDepth 20000 in
theorem gX3_map_X3_isMap : GoodIn wsX3_map (va_wsS RX3 76 yX3_isMap wsX3_isMap) := goodIn_app (goodIn_of _ (by decide +kernel)) ggX3_map_X3_isMap
set_option maxRecDepth 20000 in
theorem ggX3_map_X3_in : GoodIn wsX3_map wsX3_in := goodIn_r _ [8] (by decide +kernel) (by decide +kernel)
set_option maxRecDepth 20000 in
theorem gX3_map_X3_in : GoodIn wsX3_map (va_wsS RX3 31 yX3_in wsX3_in) := goodIn_app (goodIn_of _ (by decide +kernel)) ggX3_map_X3_in
theorem dX3_map_0 : decode cX3_map 0 = .ok (.iload_n 1, 1) := by decide +kernel
theorem dX3_map_1 : decode cX3_map 1 = .ok (.invokestatic 76, 3) := by decide +kernel
theorem dX3_map_4 : decode cX3_map 4 = .ok (.ifCond .ne 5, 3) := by decide +kernel
theorem dX3_map_7 : decode cX3_map 7 = .ok (.iconst (-1), 1) := by decide +kernel
theorem dX3_map_8 : decode cX3_map 8 = .ok (.ireturn, 1) := by decide +kernel
theorem dX3_map_9 : decode cX3_map 9 = .ok (.iload_n 2, 1) := by decide +kernel
theorem dX3_map_10 : decode cX3_map 10 = .ok (.iconst 0, 1) := by decide +kernel
theorem dX3_map_11 : decode cX3_map 11 = .ok (.iconst 3, 1) := by decide +kernel
theorem dX3_map_12 : decode cX3_map 12 = .ok (.invokestatic 31, 3) := by decide +kernel
theorem dX3_map_15 : decode cX3_map 15 = .ok (.ifCond .eq 13, 3) := by decide +kernel
theorem dX3_map_18 : decode cX3_map 18 = .ok (.iload_n 3, 1) := by decide +kernel
theorem dX3_map_19 : decode cX3_map 19 = .ok (.iconst 0, 1) := by decide +kernel
theorem dX3_map_20 : decode cX3_map 20 = .ok (.bipush 15, 2) := by decide +kernel
theorem dX3_map_22 : decode cX3_map 22 = .ok (.invokestatic 31, 3) := by decide +kernel
theorem dX3_map_25 : decode cX3_map 25 = .ok (.ifCond .ne 6, 3) := by decide +kernel
theorem dX3_map_28 : decode cX3_map 28 = .ok (.bipush (-2), 2) := by decide +kernel
theorem dX3_map_30 : decode cX3_map 30 = .ok (.ireturn, 1) := by decide +kernel
theorem dX3_map_31 : decode cX3_map 31 = .ok (.aload_n 0, 1) := by decide +kernel
theorem dX3_map_32 : decode cX3_map 32 = .ok (.getfield 16, 3) := by decide +kernel
theorem dX3_map_35 : decode cX3_map 35 = .ok (.iconst 4, 1) := by decide +kernel
theorem dX3_map_36 : decode cX3_map 36 = .ok (.iload_n 1, 1) := by decide +kernel
theorem dX3_map_37 : decode cX3_map 37 = .ok (.imul, 1) := by decide +kernel
theorem dX3_map_38 : decode cX3_map 38 = .ok (.iload_n 2, 1) := by decide +kernel
theorem dX3_map_39 : decode cX3_map 39 = .ok (.iadd, 1) := by decide +kernel
theorem dX3_map_40 : decode cX3_map 40 = .ok (.iaload, 1) := by decide +kernel
theorem dX3_map_41 : decode cX3_map 41 = .ok (.istore 4, 2) := by decide +kernel
theorem dX3_map_43 : decode cX3_map 43 = .ok (.aload_n 0, 1) := by decide +kernel
theorem dX3_map_44 : decode cX3_map 44 = .ok (.getfield 16, 3) := by decide +kernel
theorem dX3_map_47 : decode cX3_map 47 = .ok (.iconst 4, 1) := by decide +kernel
theorem dX3_map_48 : decode cX3_map 48 = .ok (.iload_n 1, 1) := by decide +kernel
theorem dX3_map_49 : decode cX3_map 49 = .ok (.imul, 1) := by decide +kernel
theorem dX3_map_50 : decode cX3_map 50 = .ok (.iload_n 2, 1) := by decide +kernel
theorem dX3_map_51 : decode cX3_map 51 = .ok (.iadd, 1) := by decide +kernel
theorem dX3_map_52 : decode cX3_map 52 = .ok (.iload_n 3, 1) := by decide +kernel
theorem dX3_map_53 : decode cX3_map 53 = .ok (.iastore, 1) := by decide +kernel
theorem dX3_map_54 : decode cX3_map 54 = .ok (.iload 4, 2) := by decide +kernel
theorem dX3_map_56 : decode cX3_map 56 = .ok (.ireturn, 1) := by decide +kernel
theorem dX3_image_0 : decode cX3_image 0 = .ok (.iconst 0, 1) := by decide +kernel
theorem dX3_image_1 : decode cX3_image 1 = .ok (.istore_n 3, 1) := by decide +kernel
theorem dX3_image_2 : decode cX3_image 2 = .ok (.iconst 0, 1) := by decide +kernel
theorem dX3_image_3 : decode cX3_image 3 = .ok (.istore 4, 2) := by decide +kernel
theorem dX3_image_5 : decode cX3_image 5 = .ok (.iload 4, 2) := by decide +kernel
theorem dX3_image_7 : decode cX3_image 7 = .ok (.iconst 4, 1) := by decide +kernel
theorem dX3_image_8 : decode cX3_image 8 = .ok (.if_icmp .ge 37, 3) := by decide +kernel
theorem dX3_image_11 : decode cX3_image 11 = .ok (.iload_n 3, 1) := by decide +kernel
theorem dX3_image_12 : decode cX3_image 12 = .ok (.iload_n 2, 1) := by decide +kernel
theorem dX3_image_13 : decode cX3_image 13 = .ok (.iload 4, 2) := by decide +kernel
theorem dX3_image_15 : decode cX3_image 15 = .ok (.ishr, 1) := by decide +kernel
theorem dX3_image_16 : decode cX3_image 16 = .ok (.iconst 1, 1) := by decide +kernel
theorem dX3_image_17 : decode cX3_image 17 = .ok (.iand, 1) := by decide +kernel
theorem dX3_image_18 : decode cX3_image 18 = .ok (.iconst 1, 1) := by decide +kernel
theorem dX3_image_19 : decode cX3_image 19 = .ok (.if_icmp .ne 17, 3) := by decide +kernel
theorem dX3_image_22 : decode cX3_image 22 = .ok (.aload_n 0, 1) := by decide +kernel
theorem dX3_image_23 : decode cX3_image 23 = .ok (.getfield 16, 3) := by decide +kernel
theorem dX3_image_26 : decode cX3_image 26 = .ok (.iconst 4, 1) := by decide +kernel
theorem dX3_image_27 : decode cX3_image 27 = .ok (.iload_n 1, 1) := by decide +kernel
theorem dX3_image_28 : decode cX3_image 28 = .ok (.imul, 1) := by decide +kernel
theorem dX3_image_29 : decode cX3_image 29 = .ok (.iload 4, 2) := by decide +kernel
theorem dX3_image_31 : decode cX3_image 31 = .ok (.iadd, 1) := by decide +kernel
theorem dX3_image_32 : decode cX3_image 32 = .ok (.iaload, 1) := by decide +kernel
theorem dX3_image_33 : decode cX3_image 33 = .ok (.goto 4, 3) := by decide +kernel
theorem dX3_image_36 : decode cX3_image 36 = .ok (.iconst 0, 1) := by decide +kernel
theorem dX3_image_37 : decode cX3_image 37 = .ok (.ixor, 1) := by decide +kernel
theorem dX3_image_38 : decode cX3_image 38 = .ok (.istore_n 3, 1) := by decide +kernel
theorem dX3_image_39 : decode cX3_image 39 = .ok (.iinc 4 1, 3) := by decide +kernel
theorem dX3_image_42 : decode cX3_image 42 = .ok (.goto (-37), 3) := by decide +kernel
theorem dX3_image_45 : decode cX3_image 45 = .ok (.iload_n 3, 1) := by decide +kernel
theorem dX3_image_46 : decode cX3_image 46 = .ok (.ireturn, 1) := by decide +kernel
set_option maxRecDepth 20000 in
theorem ggX3_gives_X3_isMap : GoodIn wsX3_gives wsX3_isMap := goodIn_r _ [4, 5, 6, 3, 7] (by decide +kernel) (by decide +kernel)
set_option maxRecDepth 20000 in
theorem gX3_gives_X3_isMap : GoodIn wsX3_gives (va_wsS RX3 76 yX3_isMap wsX3_isMap) := goodIn_app (goodIn_of _ (by decide +kernel)) ggX3_gives_X3_isMap
set_option maxRecDepth 20000 in
theorem ggX3_gives_X3_in : GoodIn wsX3_gives wsX3_in := goodIn_r _ [7] (by decide +kernel) (by decide +kernel)
set_option maxRecDepth 20000 in
theorem gX3_gives_X3_in : GoodIn wsX3_gives (va_wsS RX3 31 yX3_in wsX3_in) := goodIn_app (goodIn_of _ (by decide +kernel)) ggX3_gives_X3_in
set_option maxRecDepth 20000 in
theorem ggX3_gives_X3_image : GoodIn wsX3_gives wsX3_image := goodIn_r _ [11, 12, 13, 14, 15, 16, 17, 18, 19] (by decide +kernel) (by decide +kernel)
set_option maxRecDepth 20000 in
theorem gX3_gives_X3_image : GoodIn wsX3_gives (wsV RX3 79 RX3 yX3_image wsX3_image) := goodIn_app (goodIn_of _ (by decide +kernel)) ggX3_gives_X3_image
theorem dX3_gives_0 : decode cX3_gives 0 = .ok (.iload_n 1, 1) := by decide +kernel
theorem dX3_gives_1 : decode cX3_gives 1 = .ok (.invokestatic 76, 3) := by decide +kernel
theorem dX3_gives_4 : decode cX3_gives 4 = .ok (.ifCond .ne 5, 3) := by decide +kernel
theorem dX3_gives_7 : decode cX3_gives 7 = .ok (.iconst (-1), 1) := by decide +kernel
theorem dX3_gives_8 : decode cX3_gives 8 = .ok (.ireturn, 1) := by decide +kernel
theorem dX3_gives_9 : decode cX3_gives 9 = .ok (.iload_n 2, 1) := by decide +kernel
theorem dX3_gives_10 : decode cX3_gives 10 = .ok (.iconst 0, 1) := by decide +kernel
theorem dX3_gives_11 : decode cX3_gives 11 = .ok (.bipush 15, 2) := by decide +kernel
theorem dX3_gives_13 : decode cX3_gives 13 = .ok (.invokestatic 31, 3) := by decide +kernel
theorem dX3_gives_16 : decode cX3_gives 16 = .ok (.ifCond .eq 12, 3) := by decide +kernel
theorem dX3_gives_19 : decode cX3_gives 19 = .ok (.aload_n 0, 1) := by decide +kernel
theorem dX3_gives_20 : decode cX3_gives 20 = .ok (.iload_n 1, 1) := by decide +kernel
theorem dX3_gives_21 : decode cX3_gives 21 = .ok (.iload_n 2, 1) := by decide +kernel
theorem dX3_gives_22 : decode cX3_gives 22 = .ok (.invokevirtual 79, 3) := by decide +kernel
theorem dX3_gives_25 : decode cX3_gives 25 = .ok (.goto 5, 3) := by decide +kernel
theorem dX3_gives_28 : decode cX3_gives 28 = .ok (.bipush (-2), 2) := by decide +kernel
theorem dX3_gives_30 : decode cX3_gives 30 = .ok (.ireturn, 1) := by decide +kernel
set_option maxRecDepth 20000 in
theorem ggX3_isFit_X3_image : GoodIn wsX3_isFit wsX3_image := goodIn_r _ [5, 6, 7, 8, 9, 10, 11, 12, 13] (by decide +kernel) (by decide +kernel)
set_option maxRecDepth 20000 in
theorem gX3_isFit_X3_image : GoodIn wsX3_isFit (wsV RX3 79 RX3 yX3_image wsX3_image) := goodIn_app (goodIn_of _ (by decide +kernel)) ggX3_isFit_X3_image
theorem dX3_isFit_0 : decode cX3_isFit 0 = .ok (.iconst 0, 1) := by decide +kernel
theorem dX3_isFit_1 : decode cX3_isFit 1 = .ok (.istore_n 3, 1) := by decide +kernel
theorem dX3_isFit_2 : decode cX3_isFit 2 = .ok (.iconst 0, 1) := by decide +kernel
theorem dX3_isFit_3 : decode cX3_isFit 3 = .ok (.istore 4, 2) := by decide +kernel
theorem dX3_isFit_5 : decode cX3_isFit 5 = .ok (.iload 4, 2) := by decide +kernel
theorem dX3_isFit_7 : decode cX3_isFit 7 = .ok (.iconst 1, 1) := by decide +kernel
theorem dX3_isFit_8 : decode cX3_isFit 8 = .ok (.iload_n 2, 1) := by decide +kernel
theorem dX3_isFit_9 : decode cX3_isFit 9 = .ok (.ishl, 1) := by decide +kernel
theorem dX3_isFit_10 : decode cX3_isFit 10 = .ok (.if_icmp .ge 21, 3) := by decide +kernel
theorem dX3_isFit_13 : decode cX3_isFit 13 = .ok (.iload_n 3, 1) := by decide +kernel
theorem dX3_isFit_14 : decode cX3_isFit 14 = .ok (.iconst 1, 1) := by decide +kernel
theorem dX3_isFit_15 : decode cX3_isFit 15 = .ok (.aload_n 0, 1) := by decide +kernel
theorem dX3_isFit_16 : decode cX3_isFit 16 = .ok (.iload_n 1, 1) := by decide +kernel
theorem dX3_isFit_17 : decode cX3_isFit 17 = .ok (.iload 4, 2) := by decide +kernel
theorem dX3_isFit_19 : decode cX3_isFit 19 = .ok (.invokevirtual 79, 3) := by decide +kernel
theorem dX3_isFit_22 : decode cX3_isFit 22 = .ok (.ishl, 1) := by decide +kernel
theorem dX3_isFit_23 : decode cX3_isFit 23 = .ok (.ior, 1) := by decide +kernel
theorem dX3_isFit_24 : decode cX3_isFit 24 = .ok (.istore_n 3, 1) := by decide +kernel
theorem dX3_isFit_25 : decode cX3_isFit 25 = .ok (.iinc 4 1, 3) := by decide +kernel
theorem dX3_isFit_28 : decode cX3_isFit 28 = .ok (.goto (-23), 3) := by decide +kernel
theorem dX3_isFit_31 : decode cX3_isFit 31 = .ok (.iload_n 3, 1) := by decide +kernel
theorem dX3_isFit_32 : decode cX3_isFit 32 = .ok (.iconst 1, 1) := by decide +kernel
theorem dX3_isFit_33 : decode cX3_isFit 33 = .ok (.iconst 1, 1) := by decide +kernel
theorem dX3_isFit_34 : decode cX3_isFit 34 = .ok (.iload_n 2, 1) := by decide +kernel
theorem dX3_isFit_35 : decode cX3_isFit 35 = .ok (.ishl, 1) := by decide +kernel
theorem dX3_isFit_36 : decode cX3_isFit 36 = .ok (.ishl, 1) := by decide +kernel
theorem dX3_isFit_37 : decode cX3_isFit 37 = .ok (.iconst 1, 1) := by decide +kernel
theorem dX3_isFit_38 : decode cX3_isFit 38 = .ok (.isub, 1) := by decide +kernel
theorem dX3_isFit_39 : decode cX3_isFit 39 = .ok (.if_icmp .ne 7, 3) := by decide +kernel
theorem dX3_isFit_42 : decode cX3_isFit 42 = .ok (.iconst 1, 1) := by decide +kernel
theorem dX3_isFit_43 : decode cX3_isFit 43 = .ok (.goto 4, 3) := by decide +kernel
theorem dX3_isFit_46 : decode cX3_isFit 46 = .ok (.iconst 0, 1) := by decide +kernel
theorem dX3_isFit_47 : decode cX3_isFit 47 = .ok (.ireturn, 1) := by decide +kernel
set_option maxRecDepth 20000 in
theorem ggX3_fits_X3_isMap : GoodIn wsX3_fits wsX3_isMap := goodIn_r _ [4, 5, 6, 3, 7] (by decide +kernel) (by decide +kernel)
set_option maxRecDepth 20000 in
theorem gX3_fits_X3_isMap : GoodIn wsX3_fits (va_wsS RX3 76 yX3_isMap wsX3_isMap) := goodIn_app (goodIn_of _ (by decide +kernel)) ggX3_fits_X3_isMap
set_option maxRecDepth 20000 in
theorem ggX3_fits_X3_in : GoodIn wsX3_fits wsX3_in := goodIn_r _ [7] (by decide +kernel) (by decide +kernel)
set_option maxRecDepth 20000 in
theorem gX3_fits_X3_in : GoodIn wsX3_fits (va_wsS RX3 31 yX3_in wsX3_in) := goodIn_app (goodIn_of _ (by decide +kernel)) ggX3_fits_X3_in
set_option maxRecDepth 20000 in
theorem ggX3_fits_X3_isFit : GoodIn wsX3_fits wsX3_isFit := goodIn_r _ [11, 12, 13, 14, 3, 15, 16, 17, 18, 19, 20, 21, 22, 23] (by decide +kernel) (by decide +kernel)
set_option maxRecDepth 20000 in
theorem gX3_fits_X3_isFit : GoodIn wsX3_fits (wsV RX3 83 RX3 yX3_isFit wsX3_isFit) := goodIn_app (goodIn_of _ (by decide +kernel)) ggX3_fits_X3_isFit
theorem dX3_fits_0 : decode cX3_fits 0 = .ok (.iload_n 1, 1) := by decide +kernel
theorem dX3_fits_1 : decode cX3_fits 1 = .ok (.invokestatic 76, 3) := by decide +kernel
theorem dX3_fits_4 : decode cX3_fits 4 = .ok (.ifCond .ne 5, 3) := by decide +kernel
theorem dX3_fits_7 : decode cX3_fits 7 = .ok (.iconst (-1), 1) := by decide +kernel
theorem dX3_fits_8 : decode cX3_fits 8 = .ok (.ireturn, 1) := by decide +kernel
theorem dX3_fits_9 : decode cX3_fits 9 = .ok (.iload_n 2, 1) := by decide +kernel
theorem dX3_fits_10 : decode cX3_fits 10 = .ok (.iconst 1, 1) := by decide +kernel
theorem dX3_fits_11 : decode cX3_fits 11 = .ok (.iconst 4, 1) := by decide +kernel
theorem dX3_fits_12 : decode cX3_fits 12 = .ok (.invokestatic 31, 3) := by decide +kernel
theorem dX3_fits_15 : decode cX3_fits 15 = .ok (.ifCond .ne 8, 3) := by decide +kernel
theorem dX3_fits_18 : decode cX3_fits 18 = .ok (.bipush (-2), 2) := by decide +kernel
theorem dX3_fits_20 : decode cX3_fits 20 = .ok (.goto 17, 3) := by decide +kernel
theorem dX3_fits_23 : decode cX3_fits 23 = .ok (.aload_n 0, 1) := by decide +kernel
theorem dX3_fits_24 : decode cX3_fits 24 = .ok (.iload_n 1, 1) := by decide +kernel
theorem dX3_fits_25 : decode cX3_fits 25 = .ok (.iload_n 2, 1) := by decide +kernel
theorem dX3_fits_26 : decode cX3_fits 26 = .ok (.invokevirtual 83, 3) := by decide +kernel
theorem dX3_fits_29 : decode cX3_fits 29 = .ok (.ifCond .eq 7, 3) := by decide +kernel
theorem dX3_fits_32 : decode cX3_fits 32 = .ok (.iconst 1, 1) := by decide +kernel
theorem dX3_fits_33 : decode cX3_fits 33 = .ok (.goto 4, 3) := by decide +kernel
theorem dX3_fits_36 : decode cX3_fits 36 = .ok (.iconst 0, 1) := by decide +kernel
theorem dX3_fits_37 : decode cX3_fits 37 = .ok (.ireturn, 1) := by decide +kernel
set_option maxRecDepth 20000 in
theorem ggX3_alike_X3_isSlot : GoodIn wsX3_alike wsX3_isSlot := goodIn_r _ [5, 6, 7, 4, 8] (by decide +kernel) (by decide +kernel)
set_option maxRecDepth 20000 in
theorem gX3_alike_X3_isSlot : GoodIn wsX3_alike (va_wsS RX3 39 yX3_isSlot wsX3_isSlot) := goodIn_app (goodIn_of _ (by decide +kernel)) ggX3_alike_X3_isSlot
set_option maxRecDepth 20000 in
theorem ggX3_alike_X3_isFit : GoodIn wsX3_alike wsX3_isFit := goodIn_r _ [12, 13, 14, 15, 4, 16, 17, 27, 28, 29, 30, 31, 32, 33] (by decide +kernel) (by decide +kernel)
set_option maxRecDepth 20000 in
theorem gX3_alike_X3_isFit : GoodIn wsX3_alike (wsV RX3 83 RX3 yX3_isFit wsX3_isFit) := goodIn_app (goodIn_of _ (by decide +kernel)) ggX3_alike_X3_isFit
set_option maxRecDepth 20000 in
theorem ggX3_alike_X3_numbers : GoodIn wsX3_alike wsX3_numbers := goodIn_r _ [21, 1, 27, 28, 29, 30, 31, 32, 33] (by decide +kernel) (by decide +kernel)
set_option maxRecDepth 20000 in
theorem gX3_alike_X3_numbers : GoodIn wsX3_alike (wsV RX3 35 RX3 yX3_numbers wsX3_numbers) := goodIn_app (goodIn_of _ (by decide +kernel)) ggX3_alike_X3_numbers
set_option maxRecDepth 20000 in
theorem ggX3_alike_X3_image : GoodIn wsX3_alike wsX3_image := goodIn_r _ [16, 17, 27, 28, 29, 30, 31, 32, 33] (by decide +kernel) (by decide +kernel)
set_option maxRecDepth 20000 in
theorem gX3_alike_X3_image : GoodIn wsX3_alike (wsV RX3 79 RX3 yX3_image wsX3_image) := goodIn_app (goodIn_of _ (by decide +kernel)) ggX3_alike_X3_image
set_option maxRecDepth 20000 in
theorem ggX3_alike_X3_times : GoodIn wsX3_alike wsX3_times := goodIn_r _ [25, 1, 26, 27, 28, 29, 30, 31, 32, 33] (by decide +kernel) (by decide +kernel)
set_option maxRecDepth 20000 in
theorem gX3_alike_X3_times : GoodIn wsX3_alike (wsV RX3 51 RX3 yX3_times wsX3_times) := goodIn_app (goodIn_of _ (by decide +kernel)) ggX3_alike_X3_times
theorem dX3_alike_0 : decode cX3_alike 0 = .ok (.iload_n 1, 1) := by decide +kernel
theorem dX3_alike_1 : decode cX3_alike 1 = .ok (.invokestatic 39, 3) := by decide +kernel
theorem dX3_alike_4 : decode cX3_alike 4 = .ok (.ifCond .eq 10, 3) := by decide +kernel
theorem dX3_alike_7 : decode cX3_alike 7 = .ok (.iload_n 2, 1) := by decide +kernel
theorem dX3_alike_8 : decode cX3_alike 8 = .ok (.invokestatic 39, 3) := by decide +kernel
theorem dX3_alike_11 : decode cX3_alike 11 = .ok (.ifCond .ne 5, 3) := by decide +kernel
theorem dX3_alike_14 : decode cX3_alike 14 = .ok (.iconst (-1), 1) := by decide +kernel
theorem dX3_alike_15 : decode cX3_alike 15 = .ok (.ireturn, 1) := by decide +kernel
theorem dX3_alike_16 : decode cX3_alike 16 = .ok (.aload_n 0, 1) := by decide +kernel
theorem dX3_alike_17 : decode cX3_alike 17 = .ok (.getfield 7, 3) := by decide +kernel
theorem dX3_alike_20 : decode cX3_alike 20 = .ok (.iload_n 1, 1) := by decide +kernel
theorem dX3_alike_21 : decode cX3_alike 21 = .ok (.iaload, 1) := by decide +kernel
theorem dX3_alike_22 : decode cX3_alike 22 = .ok (.aload_n 0, 1) := by decide +kernel
theorem dX3_alike_23 : decode cX3_alike 23 = .ok (.getfield 7, 3) := by decide +kernel
theorem dX3_alike_26 : decode cX3_alike 26 = .ok (.iload_n 2, 1) := by decide +kernel
theorem dX3_alike_27 : decode cX3_alike 27 = .ok (.iaload, 1) := by decide +kernel
theorem dX3_alike_28 : decode cX3_alike 28 = .ok (.if_icmp .eq 6, 3) := by decide +kernel
theorem dX3_alike_31 : decode cX3_alike 31 = .ok (.bipush (-3), 2) := by decide +kernel
theorem dX3_alike_33 : decode cX3_alike 33 = .ok (.ireturn, 1) := by decide +kernel
theorem dX3_alike_34 : decode cX3_alike 34 = .ok (.aload_n 0, 1) := by decide +kernel
theorem dX3_alike_35 : decode cX3_alike 35 = .ok (.iconst 0, 1) := by decide +kernel
theorem dX3_alike_36 : decode cX3_alike 36 = .ok (.aload_n 0, 1) := by decide +kernel
theorem dX3_alike_37 : decode cX3_alike 37 = .ok (.getfield 7, 3) := by decide +kernel
theorem dX3_alike_40 : decode cX3_alike 40 = .ok (.iload_n 1, 1) := by decide +kernel
theorem dX3_alike_41 : decode cX3_alike 41 = .ok (.iaload, 1) := by decide +kernel
theorem dX3_alike_42 : decode cX3_alike 42 = .ok (.invokevirtual 83, 3) := by decide +kernel
theorem dX3_alike_45 : decode cX3_alike 45 = .ok (.ifCond .eq 35, 3) := by decide +kernel
theorem dX3_alike_48 : decode cX3_alike 48 = .ok (.aload_n 0, 1) := by decide +kernel
theorem dX3_alike_49 : decode cX3_alike 49 = .ok (.iconst 1, 1) := by decide +kernel
theorem dX3_alike_50 : decode cX3_alike 50 = .ok (.aload_n 0, 1) := by decide +kernel
theorem dX3_alike_51 : decode cX3_alike 51 = .ok (.getfield 7, 3) := by decide +kernel
theorem dX3_alike_54 : decode cX3_alike 54 = .ok (.iload_n 1, 1) := by decide +kernel
theorem dX3_alike_55 : decode cX3_alike 55 = .ok (.iaload, 1) := by decide +kernel
theorem dX3_alike_56 : decode cX3_alike 56 = .ok (.invokevirtual 83, 3) := by decide +kernel
theorem dX3_alike_59 : decode cX3_alike 59 = .ok (.ifCond .eq 21, 3) := by decide +kernel
theorem dX3_alike_62 : decode cX3_alike 62 = .ok (.aload_n 0, 1) := by decide +kernel
theorem dX3_alike_63 : decode cX3_alike 63 = .ok (.iconst 2, 1) := by decide +kernel
theorem dX3_alike_64 : decode cX3_alike 64 = .ok (.aload_n 0, 1) := by decide +kernel
theorem dX3_alike_65 : decode cX3_alike 65 = .ok (.getfield 7, 3) := by decide +kernel
theorem dX3_alike_68 : decode cX3_alike 68 = .ok (.iload_n 1, 1) := by decide +kernel
theorem dX3_alike_69 : decode cX3_alike 69 = .ok (.iaload, 1) := by decide +kernel
theorem dX3_alike_70 : decode cX3_alike 70 = .ok (.invokevirtual 83, 3) := by decide +kernel
theorem dX3_alike_73 : decode cX3_alike 73 = .ok (.ifCond .eq 7, 3) := by decide +kernel
theorem dX3_alike_76 : decode cX3_alike 76 = .ok (.iconst 1, 1) := by decide +kernel
theorem dX3_alike_77 : decode cX3_alike 77 = .ok (.goto 4, 3) := by decide +kernel
theorem dX3_alike_80 : decode cX3_alike 80 = .ok (.iconst 0, 1) := by decide +kernel
theorem dX3_alike_81 : decode cX3_alike 81 = .ok (.istore_n 3, 1) := by decide +kernel
theorem dX3_alike_82 : decode cX3_alike 82 = .ok (.iconst 0, 1) := by decide +kernel
theorem dX3_alike_83 : decode cX3_alike 83 = .ok (.istore 4, 2) := by decide +kernel
theorem dX3_alike_85 : decode cX3_alike 85 = .ok (.iload 4, 2) := by decide +kernel
theorem dX3_alike_87 : decode cX3_alike 87 = .ok (.aload_n 0, 1) := by decide +kernel
theorem dX3_alike_88 : decode cX3_alike 88 = .ok (.iload_n 1, 1) := by decide +kernel
theorem dX3_alike_89 : decode cX3_alike 89 = .ok (.invokevirtual 35, 3) := by decide +kernel
theorem dX3_alike_92 : decode cX3_alike 92 = .ok (.if_icmp .ge 78, 3) := by decide +kernel
theorem dX3_alike_95 : decode cX3_alike 95 = .ok (.iload_n 3, 1) := by decide +kernel
theorem dX3_alike_96 : decode cX3_alike 96 = .ok (.ifCond .eq 74, 3) := by decide +kernel
theorem dX3_alike_99 : decode cX3_alike 99 = .ok (.iconst 0, 1) := by decide +kernel
theorem dX3_alike_100 : decode cX3_alike 100 = .ok (.istore 5, 2) := by decide +kernel
theorem dX3_alike_102 : decode cX3_alike 102 = .ok (.iload 5, 2) := by decide +kernel
theorem dX3_alike_104 : decode cX3_alike 104 = .ok (.aload_n 0, 1) := by decide +kernel
theorem dX3_alike_105 : decode cX3_alike 105 = .ok (.iload_n 1, 1) := by decide +kernel
theorem dX3_alike_106 : decode cX3_alike 106 = .ok (.invokevirtual 35, 3) := by decide +kernel
theorem dX3_alike_109 : decode cX3_alike 109 = .ok (.if_icmp .ge 55, 3) := by decide +kernel
theorem dX3_alike_112 : decode cX3_alike 112 = .ok (.iload_n 3, 1) := by decide +kernel
theorem dX3_alike_113 : decode cX3_alike 113 = .ok (.ifCond .eq 51, 3) := by decide +kernel
theorem dX3_alike_116 : decode cX3_alike 116 = .ok (.aload_n 0, 1) := by decide +kernel
theorem dX3_alike_117 : decode cX3_alike 117 = .ok (.iload_n 2, 1) := by decide +kernel
theorem dX3_alike_118 : decode cX3_alike 118 = .ok (.aload_n 0, 1) := by decide +kernel
theorem dX3_alike_119 : decode cX3_alike 119 = .ok (.iconst 0, 1) := by decide +kernel
theorem dX3_alike_120 : decode cX3_alike 120 = .ok (.iload 4, 2) := by decide +kernel
theorem dX3_alike_122 : decode cX3_alike 122 = .ok (.invokevirtual 79, 3) := by decide +kernel
theorem dX3_alike_125 : decode cX3_alike 125 = .ok (.aload_n 0, 1) := by decide +kernel
theorem dX3_alike_126 : decode cX3_alike 126 = .ok (.iconst 1, 1) := by decide +kernel
theorem dX3_alike_127 : decode cX3_alike 127 = .ok (.iload 5, 2) := by decide +kernel
theorem dX3_alike_129 : decode cX3_alike 129 = .ok (.invokevirtual 79, 3) := by decide +kernel
theorem dX3_alike_132 : decode cX3_alike 132 = .ok (.invokevirtual 51, 3) := by decide +kernel
theorem dX3_alike_135 : decode cX3_alike 135 = .ok (.aload_n 0, 1) := by decide +kernel
theorem dX3_alike_136 : decode cX3_alike 136 = .ok (.iconst 2, 1) := by decide +kernel
theorem dX3_alike_137 : decode cX3_alike 137 = .ok (.aload_n 0, 1) := by decide +kernel
theorem dX3_alike_138 : decode cX3_alike 138 = .ok (.iload_n 1, 1) := by decide +kernel
theorem dX3_alike_139 : decode cX3_alike 139 = .ok (.iload 4, 2) := by decide +kernel
theorem dX3_alike_141 : decode cX3_alike 141 = .ok (.iload 5, 2) := by decide +kernel
theorem dX3_alike_143 : decode cX3_alike 143 = .ok (.invokevirtual 51, 3) := by decide +kernel
theorem dX3_alike_146 : decode cX3_alike 146 = .ok (.invokevirtual 79, 3) := by decide +kernel
theorem dX3_alike_149 : decode cX3_alike 149 = .ok (.if_icmp .ne 7, 3) := by decide +kernel
theorem dX3_alike_152 : decode cX3_alike 152 = .ok (.iconst 1, 1) := by decide +kernel
theorem dX3_alike_153 : decode cX3_alike 153 = .ok (.goto 4, 3) := by decide +kernel
theorem dX3_alike_156 : decode cX3_alike 156 = .ok (.iconst 0, 1) := by decide +kernel
theorem dX3_alike_157 : decode cX3_alike 157 = .ok (.istore_n 3, 1) := by decide +kernel
theorem dX3_alike_158 : decode cX3_alike 158 = .ok (.iinc 5 1, 3) := by decide +kernel
theorem dX3_alike_161 : decode cX3_alike 161 = .ok (.goto (-59), 3) := by decide +kernel
theorem dX3_alike_164 : decode cX3_alike 164 = .ok (.iinc 4 1, 3) := by decide +kernel
theorem dX3_alike_167 : decode cX3_alike 167 = .ok (.goto (-82), 3) := by decide +kernel
theorem dX3_alike_170 : decode cX3_alike 170 = .ok (.iload_n 3, 1) := by decide +kernel
theorem dX3_alike_171 : decode cX3_alike 171 = .ok (.ifCond .eq 7, 3) := by decide +kernel
theorem dX3_alike_174 : decode cX3_alike 174 = .ok (.iconst 1, 1) := by decide +kernel
theorem dX3_alike_175 : decode cX3_alike 175 = .ok (.goto 4, 3) := by decide +kernel
theorem dX3_alike_178 : decode cX3_alike 178 = .ok (.iconst 0, 1) := by decide +kernel
theorem dX3_alike_179 : decode cX3_alike 179 = .ok (.ireturn, 1) := by decide +kernel
set_option maxRecDepth 20000 in
theorem ggX3_back_X3_image : GoodIn wsX3_back wsX3_image := goodIn_r _ [5, 6, 7, 8, 9, 10, 11, 12, 13] (by decide +kernel) (by decide +kernel)
set_option maxRecDepth 20000 in
theorem gX3_back_X3_image : GoodIn wsX3_back (wsV RX3 79 RX3 yX3_image wsX3_image) := goodIn_app (goodIn_of _ (by decide +kernel)) ggX3_back_X3_image
theorem dX3_back_0 : decode cX3_back 0 = .ok (.iconst 0, 1) := by decide +kernel
theorem dX3_back_1 : decode cX3_back 1 = .ok (.istore_n 3, 1) := by decide +kernel
theorem dX3_back_2 : decode cX3_back 2 = .ok (.aload_n 0, 1) := by decide +kernel
theorem dX3_back_3 : decode cX3_back 3 = .ok (.iload_n 1, 1) := by decide +kernel
theorem dX3_back_4 : decode cX3_back 4 = .ok (.iload_n 3, 1) := by decide +kernel
theorem dX3_back_5 : decode cX3_back 5 = .ok (.invokevirtual 79, 3) := by decide +kernel
theorem dX3_back_8 : decode cX3_back 8 = .ok (.iload_n 2, 1) := by decide +kernel
theorem dX3_back_9 : decode cX3_back 9 = .ok (.if_icmp .eq 9, 3) := by decide +kernel
theorem dX3_back_12 : decode cX3_back 12 = .ok (.iinc 3 1, 3) := by decide +kernel
theorem dX3_back_15 : decode cX3_back 15 = .ok (.goto (-13), 3) := by decide +kernel
theorem dX3_back_18 : decode cX3_back 18 = .ok (.iload_n 3, 1) := by decide +kernel
theorem dX3_back_19 : decode cX3_back 19 = .ok (.ireturn, 1) := by decide +kernel
set_option maxRecDepth 20000 in
theorem ggX3_carry_X3_isSlot : GoodIn wsX3_carry wsX3_isSlot := goodIn_r _ [6, 7, 8, 5, 9] (by decide +kernel) (by decide +kernel)
set_option maxRecDepth 20000 in
theorem gX3_carry_X3_isSlot : GoodIn wsX3_carry (va_wsS RX3 39 yX3_isSlot wsX3_isSlot) := goodIn_app (goodIn_of _ (by decide +kernel)) ggX3_carry_X3_isSlot
set_option maxRecDepth 20000 in
theorem ggX3_carry_X3_isFit : GoodIn wsX3_carry wsX3_isFit := goodIn_r _ [13, 14, 15, 16, 5, 17, 18, 35, 36, 37, 38, 39, 40, 41] (by decide +kernel) (by decide +kernel)
set_option maxRecDepth 20000 in
theorem gX3_carry_X3_isFit : GoodIn wsX3_carry (wsV RX3 83 RX3 yX3_isFit wsX3_isFit) := goodIn_app (goodIn_of _ (by decide +kernel)) ggX3_carry_X3_isFit
set_option maxRecDepth 20000 in
theorem ggX3_carry_X3_clear : GoodIn wsX3_carry wsX3_clear := goodIn_r _ [22, 1, 2, 35, 36, 37, 38, 39, 40, 41] (by decide +kernel) (by decide +kernel)
set_option maxRecDepth 20000 in
theorem gX3_carry_X3_clear : GoodIn wsX3_carry (wsV RX3 43 RX3 yX3_clear wsX3_clear) := goodIn_app (goodIn_of _ (by decide +kernel)) ggX3_carry_X3_clear
set_option maxRecDepth 20000 in
theorem ggX3_carry_X3_back : GoodIn wsX3_carry wsX3_back := goodIn_r _ [26, 14, 15, 16, 5, 17, 18, 35, 36, 37, 38, 39, 40, 41] (by decide +kernel) (by decide +kernel)
set_option maxRecDepth 20000 in
theorem gX3_carry_X3_back : GoodIn wsX3_carry (wsV RX3 86 RX3 yX3_back wsX3_back) := goodIn_app (goodIn_of _ (by decide +kernel)) ggX3_carry_X3_back
set_option maxRecDepth 20000 in
theorem ggX3_carry_X3_times : GoodIn wsX3_carry wsX3_times := goodIn_r _ [30, 1, 2, 35, 36, 37, 38, 39, 40, 41] (by decide +kernel) (by decide +kernel)
set_option maxRecDepth 20000 in
theorem gX3_carry_X3_times : GoodIn wsX3_carry (wsV RX3 51 RX3 yX3_times wsX3_times) := goodIn_app (goodIn_of _ (by decide +kernel)) ggX3_carry_X3_times
set_option maxRecDepth 20000 in
theorem ggX3_carry_X3_image : GoodIn wsX3_carry wsX3_image := goodIn_r _ [17, 18, 35, 36, 37, 38, 39, 40, 41] (by decide +kernel) (by decide +kernel)
set_option maxRecDepth 20000 in
theorem gX3_carry_X3_image : GoodIn wsX3_carry (wsV RX3 79 RX3 yX3_image wsX3_image) := goodIn_app (goodIn_of _ (by decide +kernel)) ggX3_carry_X3_image
set_option maxRecDepth 20000 in
theorem ggX3_carry_X3_copy : GoodIn wsX3_carry wsX3_copy := goodIn_r _ [34, 1, 2, 35, 36, 37, 38, 39, 40, 41] (by decide +kernel) (by decide +kernel)
set_option maxRecDepth 20000 in
theorem gX3_carry_X3_copy : GoodIn wsX3_carry (wsV RX3 66 RX3 yX3_copy wsX3_copy) := goodIn_app (goodIn_of _ (by decide +kernel)) ggX3_carry_X3_copy
theorem dX3_carry_0 : decode cX3_carry 0 = .ok (.iload_n 1, 1) := by decide +kernel
theorem dX3_carry_1 : decode cX3_carry 1 = .ok (.invokestatic 39, 3) := by decide +kernel
theorem dX3_carry_4 : decode cX3_carry 4 = .ok (.ifCond .eq 10, 3) := by decide +kernel
theorem dX3_carry_7 : decode cX3_carry 7 = .ok (.iload_n 2, 1) := by decide +kernel
theorem dX3_carry_8 : decode cX3_carry 8 = .ok (.invokestatic 39, 3) := by decide +kernel
theorem dX3_carry_11 : decode cX3_carry 11 = .ok (.ifCond .ne 5, 3) := by decide +kernel
theorem dX3_carry_14 : decode cX3_carry 14 = .ok (.iconst (-1), 1) := by decide +kernel
theorem dX3_carry_15 : decode cX3_carry 15 = .ok (.ireturn, 1) := by decide +kernel
theorem dX3_carry_16 : decode cX3_carry 16 = .ok (.aload_n 0, 1) := by decide +kernel
theorem dX3_carry_17 : decode cX3_carry 17 = .ok (.getfield 7, 3) := by decide +kernel
theorem dX3_carry_20 : decode cX3_carry 20 = .ok (.iload_n 2, 1) := by decide +kernel
theorem dX3_carry_21 : decode cX3_carry 21 = .ok (.iaload, 1) := by decide +kernel
theorem dX3_carry_22 : decode cX3_carry 22 = .ok (.istore_n 3, 1) := by decide +kernel
theorem dX3_carry_23 : decode cX3_carry 23 = .ok (.aload_n 0, 1) := by decide +kernel
theorem dX3_carry_24 : decode cX3_carry 24 = .ok (.iconst 0, 1) := by decide +kernel
theorem dX3_carry_25 : decode cX3_carry 25 = .ok (.iload_n 3, 1) := by decide +kernel
theorem dX3_carry_26 : decode cX3_carry 26 = .ok (.invokevirtual 83, 3) := by decide +kernel
theorem dX3_carry_29 : decode cX3_carry 29 = .ok (.ifCond .eq 21, 3) := by decide +kernel
theorem dX3_carry_32 : decode cX3_carry 32 = .ok (.aload_n 0, 1) := by decide +kernel
theorem dX3_carry_33 : decode cX3_carry 33 = .ok (.iconst 1, 1) := by decide +kernel
theorem dX3_carry_34 : decode cX3_carry 34 = .ok (.iload_n 3, 1) := by decide +kernel
theorem dX3_carry_35 : decode cX3_carry 35 = .ok (.invokevirtual 83, 3) := by decide +kernel
theorem dX3_carry_38 : decode cX3_carry 38 = .ok (.ifCond .eq 12, 3) := by decide +kernel
theorem dX3_carry_41 : decode cX3_carry 41 = .ok (.aload_n 0, 1) := by decide +kernel
theorem dX3_carry_42 : decode cX3_carry 42 = .ok (.iconst 2, 1) := by decide +kernel
theorem dX3_carry_43 : decode cX3_carry 43 = .ok (.iload_n 3, 1) := by decide +kernel
theorem dX3_carry_44 : decode cX3_carry 44 = .ok (.invokevirtual 83, 3) := by decide +kernel
theorem dX3_carry_47 : decode cX3_carry 47 = .ok (.ifCond .ne 6, 3) := by decide +kernel
theorem dX3_carry_50 : decode cX3_carry 50 = .ok (.bipush (-3), 2) := by decide +kernel
theorem dX3_carry_52 : decode cX3_carry 52 = .ok (.ireturn, 1) := by decide +kernel
theorem dX3_carry_53 : decode cX3_carry 53 = .ok (.aload_n 0, 1) := by decide +kernel
theorem dX3_carry_54 : decode cX3_carry 54 = .ok (.iconst 4, 1) := by decide +kernel
theorem dX3_carry_55 : decode cX3_carry 55 = .ok (.iload_n 3, 1) := by decide +kernel
theorem dX3_carry_56 : decode cX3_carry 56 = .ok (.invokevirtual 43, 3) := by decide +kernel
theorem dX3_carry_59 : decode cX3_carry 59 = .ok (.iconst 0, 1) := by decide +kernel
theorem dX3_carry_60 : decode cX3_carry 60 = .ok (.istore 4, 2) := by decide +kernel
theorem dX3_carry_62 : decode cX3_carry 62 = .ok (.iload 4, 2) := by decide +kernel
theorem dX3_carry_64 : decode cX3_carry 64 = .ok (.iload_n 3, 1) := by decide +kernel
theorem dX3_carry_65 : decode cX3_carry 65 = .ok (.if_icmp .ge 67, 3) := by decide +kernel
theorem dX3_carry_68 : decode cX3_carry 68 = .ok (.iconst 0, 1) := by decide +kernel
theorem dX3_carry_69 : decode cX3_carry 69 = .ok (.istore 5, 2) := by decide +kernel
theorem dX3_carry_71 : decode cX3_carry 71 = .ok (.iload 5, 2) := by decide +kernel
theorem dX3_carry_73 : decode cX3_carry 73 = .ok (.iload_n 3, 1) := by decide +kernel
theorem dX3_carry_74 : decode cX3_carry 74 = .ok (.if_icmp .ge 52, 3) := by decide +kernel
theorem dX3_carry_77 : decode cX3_carry 77 = .ok (.aload_n 0, 1) := by decide +kernel
theorem dX3_carry_78 : decode cX3_carry 78 = .ok (.getfield 13, 3) := by decide +kernel
theorem dX3_carry_81 : decode cX3_carry 81 = .ok (.bipush 64, 2) := by decide +kernel
theorem dX3_carry_83 : decode cX3_carry 83 = .ok (.iconst 4, 1) := by decide +kernel
theorem dX3_carry_84 : decode cX3_carry 84 = .ok (.iload 4, 2) := by decide +kernel
theorem dX3_carry_86 : decode cX3_carry 86 = .ok (.imul, 1) := by decide +kernel
theorem dX3_carry_87 : decode cX3_carry 87 = .ok (.iadd, 1) := by decide +kernel
theorem dX3_carry_88 : decode cX3_carry 88 = .ok (.iload 5, 2) := by decide +kernel
theorem dX3_carry_90 : decode cX3_carry 90 = .ok (.iadd, 1) := by decide +kernel
theorem dX3_carry_91 : decode cX3_carry 91 = .ok (.aload_n 0, 1) := by decide +kernel
theorem dX3_carry_92 : decode cX3_carry 92 = .ok (.iconst 2, 1) := by decide +kernel
theorem dX3_carry_93 : decode cX3_carry 93 = .ok (.aload_n 0, 1) := by decide +kernel
theorem dX3_carry_94 : decode cX3_carry 94 = .ok (.iload_n 2, 1) := by decide +kernel
theorem dX3_carry_95 : decode cX3_carry 95 = .ok (.aload_n 0, 1) := by decide +kernel
theorem dX3_carry_96 : decode cX3_carry 96 = .ok (.iconst 0, 1) := by decide +kernel
theorem dX3_carry_97 : decode cX3_carry 97 = .ok (.iconst 1, 1) := by decide +kernel
theorem dX3_carry_98 : decode cX3_carry 98 = .ok (.iload 4, 2) := by decide +kernel
theorem dX3_carry_100 : decode cX3_carry 100 = .ok (.ishl, 1) := by decide +kernel
theorem dX3_carry_101 : decode cX3_carry 101 = .ok (.invokevirtual 86, 3) := by decide +kernel
theorem dX3_carry_104 : decode cX3_carry 104 = .ok (.aload_n 0, 1) := by decide +kernel
theorem dX3_carry_105 : decode cX3_carry 105 = .ok (.iconst 1, 1) := by decide +kernel
theorem dX3_carry_106 : decode cX3_carry 106 = .ok (.iconst 1, 1) := by decide +kernel
theorem dX3_carry_107 : decode cX3_carry 107 = .ok (.iload 5, 2) := by decide +kernel
theorem dX3_carry_109 : decode cX3_carry 109 = .ok (.ishl, 1) := by decide +kernel
theorem dX3_carry_110 : decode cX3_carry 110 = .ok (.invokevirtual 86, 3) := by decide +kernel
theorem dX3_carry_113 : decode cX3_carry 113 = .ok (.invokevirtual 51, 3) := by decide +kernel
theorem dX3_carry_116 : decode cX3_carry 116 = .ok (.invokevirtual 79, 3) := by decide +kernel
theorem dX3_carry_119 : decode cX3_carry 119 = .ok (.iastore, 1) := by decide +kernel
theorem dX3_carry_120 : decode cX3_carry 120 = .ok (.iinc 5 1, 3) := by decide +kernel
theorem dX3_carry_123 : decode cX3_carry 123 = .ok (.goto (-52), 3) := by decide +kernel
theorem dX3_carry_126 : decode cX3_carry 126 = .ok (.iinc 4 1, 3) := by decide +kernel
theorem dX3_carry_129 : decode cX3_carry 129 = .ok (.goto (-67), 3) := by decide +kernel
theorem dX3_carry_132 : decode cX3_carry 132 = .ok (.aload_n 0, 1) := by decide +kernel
theorem dX3_carry_133 : decode cX3_carry 133 = .ok (.iconst 4, 1) := by decide +kernel
theorem dX3_carry_134 : decode cX3_carry 134 = .ok (.iload_n 1, 1) := by decide +kernel
theorem dX3_carry_135 : decode cX3_carry 135 = .ok (.invokevirtual 66, 3) := by decide +kernel
theorem dX3_carry_138 : decode cX3_carry 138 = .ok (.iconst 1, 1) := by decide +kernel
theorem dX3_carry_139 : decode cX3_carry 139 = .ok (.ireturn, 1) := by decide +kernel
theorem dX3_lay_0 : decode cX3_lay 0 = .ok (.iconst 0, 1) := by decide +kernel
theorem dX3_lay_1 : decode cX3_lay 1 = .ok (.istore_n 3, 1) := by decide +kernel
theorem dX3_lay_2 : decode cX3_lay 2 = .ok (.iconst 0, 1) := by decide +kernel
theorem dX3_lay_3 : decode cX3_lay 3 = .ok (.istore 4, 2) := by decide +kernel
theorem dX3_lay_5 : decode cX3_lay 5 = .ok (.iload 4, 2) := by decide +kernel
theorem dX3_lay_7 : decode cX3_lay 7 = .ok (.iconst 1, 1) := by decide +kernel
theorem dX3_lay_8 : decode cX3_lay 8 = .ok (.iload_n 2, 1) := by decide +kernel
theorem dX3_lay_9 : decode cX3_lay 9 = .ok (.ishl, 1) := by decide +kernel
theorem dX3_lay_10 : decode cX3_lay 10 = .ok (.if_icmp .ge 69, 3) := by decide +kernel
theorem dX3_lay_13 : decode cX3_lay 13 = .ok (.aload_n 0, 1) := by decide +kernel
theorem dX3_lay_14 : decode cX3_lay 14 = .ok (.iload 4, 2) := by decide +kernel
theorem dX3_lay_16 : decode cX3_lay 16 = .ok (.iconst 0, 1) := by decide +kernel
theorem dX3_lay_17 : decode cX3_lay 17 = .ok (.iastore, 1) := by decide +kernel
theorem dX3_lay_18 : decode cX3_lay 18 = .ok (.iconst 0, 1) := by decide +kernel
theorem dX3_lay_19 : decode cX3_lay 19 = .ok (.istore 5, 2) := by decide +kernel
theorem dX3_lay_21 : decode cX3_lay 21 = .ok (.iload 5, 2) := by decide +kernel
theorem dX3_lay_23 : decode cX3_lay 23 = .ok (.iload_n 2, 1) := by decide +kernel
theorem dX3_lay_24 : decode cX3_lay 24 = .ok (.if_icmp .ge 40, 3) := by decide +kernel
theorem dX3_lay_27 : decode cX3_lay 27 = .ok (.aload_n 0, 1) := by decide +kernel
theorem dX3_lay_28 : decode cX3_lay 28 = .ok (.iload 4, 2) := by decide +kernel
theorem dX3_lay_30 : decode cX3_lay 30 = .ok (.dup2, 1) := by decide +kernel
theorem dX3_lay_31 : decode cX3_lay 31 = .ok (.iaload, 1) := by decide +kernel
theorem dX3_lay_32 : decode cX3_lay 32 = .ok (.iload 4, 2) := by decide +kernel
theorem dX3_lay_34 : decode cX3_lay 34 = .ok (.iload 5, 2) := by decide +kernel
theorem dX3_lay_36 : decode cX3_lay 36 = .ok (.ishr, 1) := by decide +kernel
theorem dX3_lay_37 : decode cX3_lay 37 = .ok (.iconst 1, 1) := by decide +kernel
theorem dX3_lay_38 : decode cX3_lay 38 = .ok (.iand, 1) := by decide +kernel
theorem dX3_lay_39 : decode cX3_lay 39 = .ok (.iconst 1, 1) := by decide +kernel
theorem dX3_lay_40 : decode cX3_lay 40 = .ok (.if_icmp .ne 15, 3) := by decide +kernel
theorem dX3_lay_43 : decode cX3_lay 43 = .ok (.iload_n 1, 1) := by decide +kernel
theorem dX3_lay_44 : decode cX3_lay 44 = .ok (.iconst 3, 1) := by decide +kernel
theorem dX3_lay_45 : decode cX3_lay 45 = .ok (.iload 5, 2) := by decide +kernel
theorem dX3_lay_47 : decode cX3_lay 47 = .ok (.imul, 1) := by decide +kernel
theorem dX3_lay_48 : decode cX3_lay 48 = .ok (.ishr, 1) := by decide +kernel
theorem dX3_lay_49 : decode cX3_lay 49 = .ok (.bipush 7, 2) := by decide +kernel
theorem dX3_lay_51 : decode cX3_lay 51 = .ok (.iand, 1) := by decide +kernel
theorem dX3_lay_52 : decode cX3_lay 52 = .ok (.goto 4, 3) := by decide +kernel
theorem dX3_lay_55 : decode cX3_lay 55 = .ok (.iconst 0, 1) := by decide +kernel
theorem dX3_lay_56 : decode cX3_lay 56 = .ok (.ixor, 1) := by decide +kernel
theorem dX3_lay_57 : decode cX3_lay 57 = .ok (.iastore, 1) := by decide +kernel
theorem dX3_lay_58 : decode cX3_lay 58 = .ok (.iinc 5 1, 3) := by decide +kernel
theorem dX3_lay_61 : decode cX3_lay 61 = .ok (.goto (-40), 3) := by decide +kernel
theorem dX3_lay_64 : decode cX3_lay 64 = .ok (.iload_n 3, 1) := by decide +kernel
theorem dX3_lay_65 : decode cX3_lay 65 = .ok (.iconst 1, 1) := by decide +kernel
theorem dX3_lay_66 : decode cX3_lay 66 = .ok (.aload_n 0, 1) := by decide +kernel
theorem dX3_lay_67 : decode cX3_lay 67 = .ok (.iload 4, 2) := by decide +kernel
theorem dX3_lay_69 : decode cX3_lay 69 = .ok (.iaload, 1) := by decide +kernel
theorem dX3_lay_70 : decode cX3_lay 70 = .ok (.ishl, 1) := by decide +kernel
theorem dX3_lay_71 : decode cX3_lay 71 = .ok (.ior, 1) := by decide +kernel
theorem dX3_lay_72 : decode cX3_lay 72 = .ok (.istore_n 3, 1) := by decide +kernel
theorem dX3_lay_73 : decode cX3_lay 73 = .ok (.iinc 4 1, 3) := by decide +kernel
theorem dX3_lay_76 : decode cX3_lay 76 = .ok (.goto (-71), 3) := by decide +kernel
theorem dX3_lay_79 : decode cX3_lay 79 = .ok (.iload_n 3, 1) := by decide +kernel
theorem dX3_lay_80 : decode cX3_lay 80 = .ok (.iconst 1, 1) := by decide +kernel
theorem dX3_lay_81 : decode cX3_lay 81 = .ok (.iconst 1, 1) := by decide +kernel
theorem dX3_lay_82 : decode cX3_lay 82 = .ok (.iload_n 2, 1) := by decide +kernel
theorem dX3_lay_83 : decode cX3_lay 83 = .ok (.ishl, 1) := by decide +kernel
theorem dX3_lay_84 : decode cX3_lay 84 = .ok (.ishl, 1) := by decide +kernel
theorem dX3_lay_85 : decode cX3_lay 85 = .ok (.iconst 1, 1) := by decide +kernel
theorem dX3_lay_86 : decode cX3_lay 86 = .ok (.isub, 1) := by decide +kernel
theorem dX3_lay_87 : decode cX3_lay 87 = .ok (.if_icmp .ne 7, 3) := by decide +kernel
theorem dX3_lay_90 : decode cX3_lay 90 = .ok (.iconst 1, 1) := by decide +kernel
theorem dX3_lay_91 : decode cX3_lay 91 = .ok (.goto 4, 3) := by decide +kernel
theorem dX3_lay_94 : decode cX3_lay 94 = .ok (.iconst 0, 1) := by decide +kernel
theorem dX3_lay_95 : decode cX3_lay 95 = .ok (.ireturn, 1) := by decide +kernel
theorem dX3_hasThird_0 : decode cX3_hasThird 0 = .ok (.iconst 1, 1) := by decide +kernel
theorem dX3_hasThird_1 : decode cX3_hasThird 1 = .ok (.iload_n 1, 1) := by decide +kernel
theorem dX3_hasThird_2 : decode cX3_hasThird 2 = .ok (.ishl, 1) := by decide +kernel
theorem dX3_hasThird_3 : decode cX3_hasThird 3 = .ok (.istore_n 2, 1) := by decide +kernel
theorem dX3_hasThird_4 : decode cX3_hasThird 4 = .ok (.iconst 0, 1) := by decide +kernel
theorem dX3_hasThird_5 : decode cX3_hasThird 5 = .ok (.istore_n 3, 1) := by decide +kernel
theorem dX3_hasThird_6 : decode cX3_hasThird 6 = .ok (.iload_n 3, 1) := by decide +kernel
theorem dX3_hasThird_7 : decode cX3_hasThird 7 = .ok (.iload_n 2, 1) := by decide +kernel
theorem dX3_hasThird_8 : decode cX3_hasThird 8 = .ok (.if_icmp .ge 47, 3) := by decide +kernel
theorem dX3_hasThird_11 : decode cX3_hasThird 11 = .ok (.aload_n 0, 1) := by decide +kernel
theorem dX3_hasThird_12 : decode cX3_hasThird 12 = .ok (.getfield 28, 3) := by decide +kernel
theorem dX3_hasThird_15 : decode cX3_hasThird 15 = .ok (.aload_n 0, 1) := by decide +kernel
theorem dX3_hasThird_16 : decode cX3_hasThird 16 = .ok (.getfield 19, 3) := by decide +kernel
theorem dX3_hasThird_19 : decode cX3_hasThird 19 = .ok (.bipush 8, 2) := by decide +kernel
theorem dX3_hasThird_21 : decode cX3_hasThird 21 = .ok (.iload_n 3, 1) := by decide +kernel
theorem dX3_hasThird_22 : decode cX3_hasThird 22 = .ok (.iadd, 1) := by decide +kernel
theorem dX3_hasThird_23 : decode cX3_hasThird 23 = .ok (.iaload, 1) := by decide +kernel
theorem dX3_hasThird_24 : decode cX3_hasThird 24 = .ok (.aload_n 0, 1) := by decide +kernel
theorem dX3_hasThird_25 : decode cX3_hasThird 25 = .ok (.getfield 19, 3) := by decide +kernel
theorem dX3_hasThird_28 : decode cX3_hasThird 28 = .ok (.bipush 64, 2) := by decide +kernel
theorem dX3_hasThird_30 : decode cX3_hasThird 30 = .ok (.bipush 8, 2) := by decide +kernel
theorem dX3_hasThird_32 : decode cX3_hasThird 32 = .ok (.aload_n 0, 1) := by decide +kernel
theorem dX3_hasThird_33 : decode cX3_hasThird 33 = .ok (.getfield 22, 3) := by decide +kernel
theorem dX3_hasThird_36 : decode cX3_hasThird 36 = .ok (.iconst 1, 1) := by decide +kernel
theorem dX3_hasThird_37 : decode cX3_hasThird 37 = .ok (.iaload, 1) := by decide +kernel
theorem dX3_hasThird_38 : decode cX3_hasThird 38 = .ok (.imul, 1) := by decide +kernel
theorem dX3_hasThird_39 : decode cX3_hasThird 39 = .ok (.iadd, 1) := by decide +kernel
theorem dX3_hasThird_40 : decode cX3_hasThird 40 = .ok (.aload_n 0, 1) := by decide +kernel
theorem dX3_hasThird_41 : decode cX3_hasThird 41 = .ok (.getfield 25, 3) := by decide +kernel
theorem dX3_hasThird_44 : decode cX3_hasThird 44 = .ok (.iload_n 3, 1) := by decide +kernel
theorem dX3_hasThird_45 : decode cX3_hasThird 45 = .ok (.iaload, 1) := by decide +kernel
theorem dX3_hasThird_46 : decode cX3_hasThird 46 = .ok (.iadd, 1) := by decide +kernel
theorem dX3_hasThird_47 : decode cX3_hasThird 47 = .ok (.iaload, 1) := by decide +kernel
theorem dX3_hasThird_48 : decode cX3_hasThird 48 = .ok (.iastore, 1) := by decide +kernel
theorem dX3_hasThird_49 : decode cX3_hasThird 49 = .ok (.iinc 3 1, 3) := by decide +kernel
theorem dX3_hasThird_52 : decode cX3_hasThird 52 = .ok (.goto (-46), 3) := by decide +kernel
theorem dX3_hasThird_55 : decode cX3_hasThird 55 = .ok (.iconst 1, 1) := by decide +kernel
theorem dX3_hasThird_56 : decode cX3_hasThird 56 = .ok (.istore_n 3, 1) := by decide +kernel
theorem dX3_hasThird_57 : decode cX3_hasThird 57 = .ok (.iload_n 3, 1) := by decide +kernel
theorem dX3_hasThird_58 : decode cX3_hasThird 58 = .ok (.iload_n 2, 1) := by decide +kernel
theorem dX3_hasThird_59 : decode cX3_hasThird 59 = .ok (.if_icmp .ge 71, 3) := by decide +kernel
theorem dX3_hasThird_62 : decode cX3_hasThird 62 = .ok (.iconst 1, 1) := by decide +kernel
theorem dX3_hasThird_63 : decode cX3_hasThird 63 = .ok (.istore 4, 2) := by decide +kernel
theorem dX3_hasThird_65 : decode cX3_hasThird 65 = .ok (.iload 4, 2) := by decide +kernel
theorem dX3_hasThird_67 : decode cX3_hasThird 67 = .ok (.iload_n 2, 1) := by decide +kernel
theorem dX3_hasThird_68 : decode cX3_hasThird 68 = .ok (.if_icmp .ge 56, 3) := by decide +kernel
theorem dX3_hasThird_71 : decode cX3_hasThird 71 = .ok (.aload_n 0, 1) := by decide +kernel
theorem dX3_hasThird_72 : decode cX3_hasThird 72 = .ok (.getfield 28, 3) := by decide +kernel
theorem dX3_hasThird_75 : decode cX3_hasThird 75 = .ok (.aload_n 0, 1) := by decide +kernel
theorem dX3_hasThird_76 : decode cX3_hasThird 76 = .ok (.getfield 19, 3) := by decide +kernel
theorem dX3_hasThird_79 : decode cX3_hasThird 79 = .ok (.bipush 8, 2) := by decide +kernel
theorem dX3_hasThird_81 : decode cX3_hasThird 81 = .ok (.iload_n 3, 1) := by decide +kernel
theorem dX3_hasThird_82 : decode cX3_hasThird 82 = .ok (.imul, 1) := by decide +kernel
theorem dX3_hasThird_83 : decode cX3_hasThird 83 = .ok (.iload 4, 2) := by decide +kernel
theorem dX3_hasThird_85 : decode cX3_hasThird 85 = .ok (.iadd, 1) := by decide +kernel
theorem dX3_hasThird_86 : decode cX3_hasThird 86 = .ok (.iaload, 1) := by decide +kernel
theorem dX3_hasThird_87 : decode cX3_hasThird 87 = .ok (.iaload, 1) := by decide +kernel
theorem dX3_hasThird_88 : decode cX3_hasThird 88 = .ok (.aload_n 0, 1) := by decide +kernel
theorem dX3_hasThird_89 : decode cX3_hasThird 89 = .ok (.getfield 19, 3) := by decide +kernel
theorem dX3_hasThird_92 : decode cX3_hasThird 92 = .ok (.bipush 64, 2) := by decide +kernel
theorem dX3_hasThird_94 : decode cX3_hasThird 94 = .ok (.bipush 8, 2) := by decide +kernel
theorem dX3_hasThird_96 : decode cX3_hasThird 96 = .ok (.aload_n 0, 1) := by decide +kernel
theorem dX3_hasThird_97 : decode cX3_hasThird 97 = .ok (.getfield 22, 3) := by decide +kernel
theorem dX3_hasThird_100 : decode cX3_hasThird 100 = .ok (.iload_n 3, 1) := by decide +kernel
theorem dX3_hasThird_101 : decode cX3_hasThird 101 = .ok (.iaload, 1) := by decide +kernel
theorem dX3_hasThird_102 : decode cX3_hasThird 102 = .ok (.imul, 1) := by decide +kernel
theorem dX3_hasThird_103 : decode cX3_hasThird 103 = .ok (.iadd, 1) := by decide +kernel
theorem dX3_hasThird_104 : decode cX3_hasThird 104 = .ok (.aload_n 0, 1) := by decide +kernel
theorem dX3_hasThird_105 : decode cX3_hasThird 105 = .ok (.getfield 25, 3) := by decide +kernel
theorem dX3_hasThird_108 : decode cX3_hasThird 108 = .ok (.iload 4, 2) := by decide +kernel
theorem dX3_hasThird_110 : decode cX3_hasThird 110 = .ok (.iaload, 1) := by decide +kernel
theorem dX3_hasThird_111 : decode cX3_hasThird 111 = .ok (.iadd, 1) := by decide +kernel
theorem dX3_hasThird_112 : decode cX3_hasThird 112 = .ok (.iaload, 1) := by decide +kernel
theorem dX3_hasThird_113 : decode cX3_hasThird 113 = .ok (.if_icmp .eq 5, 3) := by decide +kernel
theorem dX3_hasThird_116 : decode cX3_hasThird 116 = .ok (.iconst 0, 1) := by decide +kernel
theorem dX3_hasThird_117 : decode cX3_hasThird 117 = .ok (.ireturn, 1) := by decide +kernel
theorem dX3_hasThird_118 : decode cX3_hasThird 118 = .ok (.iinc 4 1, 3) := by decide +kernel
theorem dX3_hasThird_121 : decode cX3_hasThird 121 = .ok (.goto (-56), 3) := by decide +kernel
theorem dX3_hasThird_124 : decode cX3_hasThird 124 = .ok (.iinc 3 1, 3) := by decide +kernel
theorem dX3_hasThird_127 : decode cX3_hasThird 127 = .ok (.goto (-70), 3) := by decide +kernel
theorem dX3_hasThird_130 : decode cX3_hasThird 130 = .ok (.iconst 1, 1) := by decide +kernel
theorem dX3_hasThird_131 : decode cX3_hasThird 131 = .ok (.ireturn, 1) := by decide +kernel
set_option maxRecDepth 20000 in
theorem ggX3_ways_X3_isSlot : GoodIn wsX3_ways wsX3_isSlot := goodIn_r _ [8, 9, 10, 7, 11] (by decide +kernel) (by decide +kernel)
set_option maxRecDepth 20000 in
theorem gX3_ways_X3_isSlot : GoodIn wsX3_ways (va_wsS RX3 39 yX3_isSlot wsX3_isSlot) := goodIn_app (goodIn_of _ (by decide +kernel)) ggX3_ways_X3_isSlot
set_option maxRecDepth 20000 in
theorem ggX3_ways_X3_firstBroken : GoodIn wsX3_ways wsX3_firstBroken := goodIn_r _ [15, 16, 17, 18, 7, 19, 1, 20, 21, 22, 23, 24, 33, 34, 35, 36, 37, 38, 39] (by decide +kernel) (by decide +kernel)
set_option maxRecDepth 20000 in
theorem gX3_ways_X3_firstBroken : GoodIn wsX3_ways (wsV RX3 55 RX3 yX3_firstBroken wsX3_firstBroken) := goodIn_app (goodIn_of _ (by decide +kernel)) ggX3_ways_X3_firstBroken
set_option maxRecDepth 20000 in
theorem ggX3_ways_X3_times : GoodIn wsX3_ways wsX3_times := goodIn_r _ [23, 1, 24, 33, 34, 35, 36, 37, 38, 39] (by decide +kernel) (by decide +kernel)
set_option maxRecDepth 20000 in
theorem gX3_ways_X3_times : GoodIn wsX3_ways (wsV RX3 51 RX3 yX3_times wsX3_times) := goodIn_app (goodIn_of _ (by decide +kernel)) ggX3_ways_X3_times
set_option maxRecDepth 20000 in
theorem ggX3_ways_X3_lay : GoodIn wsX3_ways wsX3_lay := goodIn_r _ [27] (by decide +kernel) (by decide +kernel)
set_option maxRecDepth 20000 in
theorem gX3_ways_X3_lay : GoodIn wsX3_ways (va_wsS RX3 89 yX3_lay wsX3_lay) := goodIn_app (goodIn_of _ (by decide +kernel)) ggX3_ways_X3_lay
set_option maxRecDepth 20000 in
theorem ggX3_ways_X3_hasThird : GoodIn wsX3_ways wsX3_hasThird := goodIn_r _ [31, 32, 2, 3, 4, 33, 34, 35, 36, 37, 38, 39] (by decide +kernel) (by decide +kernel)
set_option maxRecDepth 20000 in
theorem gX3_ways_X3_hasThird : GoodIn wsX3_ways (wsV RX3 93 RX3 yX3_hasThird wsX3_hasThird) := goodIn_app (goodIn_of _ (by decide +kernel)) ggX3_ways_X3_hasThird
theorem dX3_ways_0 : decode cX3_ways 0 = .ok (.iload_n 1, 1) := by decide +kernel
theorem dX3_ways_1 : decode cX3_ways 1 = .ok (.invokestatic 39, 3) := by decide +kernel
theorem dX3_ways_4 : decode cX3_ways 4 = .ok (.ifCond .eq 10, 3) := by decide +kernel
theorem dX3_ways_7 : decode cX3_ways 7 = .ok (.iload_n 2, 1) := by decide +kernel
theorem dX3_ways_8 : decode cX3_ways 8 = .ok (.invokestatic 39, 3) := by decide +kernel
theorem dX3_ways_11 : decode cX3_ways 11 = .ok (.ifCond .ne 5, 3) := by decide +kernel
theorem dX3_ways_14 : decode cX3_ways 14 = .ok (.iconst (-1), 1) := by decide +kernel
theorem dX3_ways_15 : decode cX3_ways 15 = .ok (.ireturn, 1) := by decide +kernel
theorem dX3_ways_16 : decode cX3_ways 16 = .ok (.aload_n 0, 1) := by decide +kernel
theorem dX3_ways_17 : decode cX3_ways 17 = .ok (.getfield 7, 3) := by decide +kernel
theorem dX3_ways_20 : decode cX3_ways 20 = .ok (.iload_n 1, 1) := by decide +kernel
theorem dX3_ways_21 : decode cX3_ways 21 = .ok (.iaload, 1) := by decide +kernel
theorem dX3_ways_22 : decode cX3_ways 22 = .ok (.aload_n 0, 1) := by decide +kernel
theorem dX3_ways_23 : decode cX3_ways 23 = .ok (.getfield 7, 3) := by decide +kernel
theorem dX3_ways_26 : decode cX3_ways 26 = .ok (.iload_n 2, 1) := by decide +kernel
theorem dX3_ways_27 : decode cX3_ways 27 = .ok (.iaload, 1) := by decide +kernel
theorem dX3_ways_28 : decode cX3_ways 28 = .ok (.if_icmp .ne 33, 3) := by decide +kernel
theorem dX3_ways_31 : decode cX3_ways 31 = .ok (.aload_n 0, 1) := by decide +kernel
theorem dX3_ways_32 : decode cX3_ways 32 = .ok (.getfield 7, 3) := by decide +kernel
theorem dX3_ways_35 : decode cX3_ways 35 = .ok (.iload_n 1, 1) := by decide +kernel
theorem dX3_ways_36 : decode cX3_ways 36 = .ok (.iaload, 1) := by decide +kernel
theorem dX3_ways_37 : decode cX3_ways 37 = .ok (.iconst 4, 1) := by decide +kernel
theorem dX3_ways_38 : decode cX3_ways 38 = .ok (.if_icmp .eq 23, 3) := by decide +kernel
theorem dX3_ways_41 : decode cX3_ways 41 = .ok (.aload_n 0, 1) := by decide +kernel
theorem dX3_ways_42 : decode cX3_ways 42 = .ok (.iload_n 1, 1) := by decide +kernel
theorem dX3_ways_43 : decode cX3_ways 43 = .ok (.invokevirtual 55, 3) := by decide +kernel
theorem dX3_ways_46 : decode cX3_ways 46 = .ok (.bipush (-9), 2) := by decide +kernel
theorem dX3_ways_48 : decode cX3_ways 48 = .ok (.if_icmp .ne 13, 3) := by decide +kernel
theorem dX3_ways_51 : decode cX3_ways 51 = .ok (.aload_n 0, 1) := by decide +kernel
theorem dX3_ways_52 : decode cX3_ways 52 = .ok (.iload_n 2, 1) := by decide +kernel
theorem dX3_ways_53 : decode cX3_ways 53 = .ok (.invokevirtual 55, 3) := by decide +kernel
theorem dX3_ways_56 : decode cX3_ways 56 = .ok (.bipush (-9), 2) := by decide +kernel
theorem dX3_ways_58 : decode cX3_ways 58 = .ok (.if_icmp .eq 6, 3) := by decide +kernel
theorem dX3_ways_61 : decode cX3_ways 61 = .ok (.bipush (-3), 2) := by decide +kernel
theorem dX3_ways_63 : decode cX3_ways 63 = .ok (.ireturn, 1) := by decide +kernel
theorem dX3_ways_64 : decode cX3_ways 64 = .ok (.aload_n 0, 1) := by decide +kernel
theorem dX3_ways_65 : decode cX3_ways 65 = .ok (.getfield 7, 3) := by decide +kernel
theorem dX3_ways_68 : decode cX3_ways 68 = .ok (.iload_n 1, 1) := by decide +kernel
theorem dX3_ways_69 : decode cX3_ways 69 = .ok (.iaload, 1) := by decide +kernel
theorem dX3_ways_70 : decode cX3_ways 70 = .ok (.istore_n 3, 1) := by decide +kernel
theorem dX3_ways_71 : decode cX3_ways 71 = .ok (.iconst 0, 1) := by decide +kernel
theorem dX3_ways_72 : decode cX3_ways 72 = .ok (.istore 4, 2) := by decide +kernel
theorem dX3_ways_74 : decode cX3_ways 74 = .ok (.iload 4, 2) := by decide +kernel
theorem dX3_ways_76 : decode cX3_ways 76 = .ok (.iconst 1, 1) := by decide +kernel
theorem dX3_ways_77 : decode cX3_ways 77 = .ok (.iload_n 3, 1) := by decide +kernel
theorem dX3_ways_78 : decode cX3_ways 78 = .ok (.ishl, 1) := by decide +kernel
theorem dX3_ways_79 : decode cX3_ways 79 = .ok (.if_icmp .ge 73, 3) := by decide +kernel
theorem dX3_ways_82 : decode cX3_ways 82 = .ok (.iconst 0, 1) := by decide +kernel
theorem dX3_ways_83 : decode cX3_ways 83 = .ok (.istore 5, 2) := by decide +kernel
theorem dX3_ways_85 : decode cX3_ways 85 = .ok (.iload 5, 2) := by decide +kernel
theorem dX3_ways_87 : decode cX3_ways 87 = .ok (.iconst 1, 1) := by decide +kernel
theorem dX3_ways_88 : decode cX3_ways 88 = .ok (.iload_n 3, 1) := by decide +kernel
theorem dX3_ways_89 : decode cX3_ways 89 = .ok (.ishl, 1) := by decide +kernel
theorem dX3_ways_90 : decode cX3_ways 90 = .ok (.if_icmp .ge 56, 3) := by decide +kernel
theorem dX3_ways_93 : decode cX3_ways 93 = .ok (.aload_n 0, 1) := by decide +kernel
theorem dX3_ways_94 : decode cX3_ways 94 = .ok (.getfield 19, 3) := by decide +kernel
theorem dX3_ways_97 : decode cX3_ways 97 = .ok (.bipush 8, 2) := by decide +kernel
theorem dX3_ways_99 : decode cX3_ways 99 = .ok (.iload 4, 2) := by decide +kernel
theorem dX3_ways_101 : decode cX3_ways 101 = .ok (.imul, 1) := by decide +kernel
theorem dX3_ways_102 : decode cX3_ways 102 = .ok (.iload 5, 2) := by decide +kernel
theorem dX3_ways_104 : decode cX3_ways 104 = .ok (.iadd, 1) := by decide +kernel
theorem dX3_ways_105 : decode cX3_ways 105 = .ok (.aload_n 0, 1) := by decide +kernel
theorem dX3_ways_106 : decode cX3_ways 106 = .ok (.iload_n 1, 1) := by decide +kernel
theorem dX3_ways_107 : decode cX3_ways 107 = .ok (.iload 4, 2) := by decide +kernel
theorem dX3_ways_109 : decode cX3_ways 109 = .ok (.iload 5, 2) := by decide +kernel
theorem dX3_ways_111 : decode cX3_ways 111 = .ok (.invokevirtual 51, 3) := by decide +kernel
theorem dX3_ways_114 : decode cX3_ways 114 = .ok (.iastore, 1) := by decide +kernel
theorem dX3_ways_115 : decode cX3_ways 115 = .ok (.aload_n 0, 1) := by decide +kernel
theorem dX3_ways_116 : decode cX3_ways 116 = .ok (.getfield 19, 3) := by decide +kernel
theorem dX3_ways_119 : decode cX3_ways 119 = .ok (.bipush 64, 2) := by decide +kernel
theorem dX3_ways_121 : decode cX3_ways 121 = .ok (.bipush 8, 2) := by decide +kernel
theorem dX3_ways_123 : decode cX3_ways 123 = .ok (.iload 4, 2) := by decide +kernel
theorem dX3_ways_125 : decode cX3_ways 125 = .ok (.imul, 1) := by decide +kernel
theorem dX3_ways_126 : decode cX3_ways 126 = .ok (.iadd, 1) := by decide +kernel
theorem dX3_ways_127 : decode cX3_ways 127 = .ok (.iload 5, 2) := by decide +kernel
theorem dX3_ways_129 : decode cX3_ways 129 = .ok (.iadd, 1) := by decide +kernel
theorem dX3_ways_130 : decode cX3_ways 130 = .ok (.aload_n 0, 1) := by decide +kernel
theorem dX3_ways_131 : decode cX3_ways 131 = .ok (.iload_n 2, 1) := by decide +kernel
theorem dX3_ways_132 : decode cX3_ways 132 = .ok (.iload 4, 2) := by decide +kernel
theorem dX3_ways_134 : decode cX3_ways 134 = .ok (.iload 5, 2) := by decide +kernel
theorem dX3_ways_136 : decode cX3_ways 136 = .ok (.invokevirtual 51, 3) := by decide +kernel
theorem dX3_ways_139 : decode cX3_ways 139 = .ok (.iastore, 1) := by decide +kernel
theorem dX3_ways_140 : decode cX3_ways 140 = .ok (.iinc 5 1, 3) := by decide +kernel
theorem dX3_ways_143 : decode cX3_ways 143 = .ok (.goto (-58), 3) := by decide +kernel
theorem dX3_ways_146 : decode cX3_ways 146 = .ok (.iinc 4 1, 3) := by decide +kernel
theorem dX3_ways_149 : decode cX3_ways 149 = .ok (.goto (-75), 3) := by decide +kernel
theorem dX3_ways_152 : decode cX3_ways 152 = .ok (.iconst 0, 1) := by decide +kernel
theorem dX3_ways_153 : decode cX3_ways 153 = .ok (.istore 4, 2) := by decide +kernel
theorem dX3_ways_155 : decode cX3_ways 155 = .ok (.iconst 0, 1) := by decide +kernel
theorem dX3_ways_156 : decode cX3_ways 156 = .ok (.istore 5, 2) := by decide +kernel
theorem dX3_ways_158 : decode cX3_ways 158 = .ok (.iload 5, 2) := by decide +kernel
theorem dX3_ways_160 : decode cX3_ways 160 = .ok (.iconst 1, 1) := by decide +kernel
theorem dX3_ways_161 : decode cX3_ways 161 = .ok (.iconst 3, 1) := by decide +kernel
theorem dX3_ways_162 : decode cX3_ways 162 = .ok (.iload_n 3, 1) := by decide +kernel
theorem dX3_ways_163 : decode cX3_ways 163 = .ok (.imul, 1) := by decide +kernel
theorem dX3_ways_164 : decode cX3_ways 164 = .ok (.ishl, 1) := by decide +kernel
theorem dX3_ways_165 : decode cX3_ways 165 = .ok (.if_icmp .ge 76, 3) := by decide +kernel
theorem dX3_ways_168 : decode cX3_ways 168 = .ok (.aload_n 0, 1) := by decide +kernel
theorem dX3_ways_169 : decode cX3_ways 169 = .ok (.getfield 22, 3) := by decide +kernel
theorem dX3_ways_172 : decode cX3_ways 172 = .ok (.iload 5, 2) := by decide +kernel
theorem dX3_ways_174 : decode cX3_ways 174 = .ok (.iload_n 3, 1) := by decide +kernel
theorem dX3_ways_175 : decode cX3_ways 175 = .ok (.invokestatic 89, 3) := by decide +kernel
theorem dX3_ways_178 : decode cX3_ways 178 = .ok (.istore 6, 2) := by decide +kernel
theorem dX3_ways_180 : decode cX3_ways 180 = .ok (.iconst 0, 1) := by decide +kernel
theorem dX3_ways_181 : decode cX3_ways 181 = .ok (.istore 7, 2) := by decide +kernel
theorem dX3_ways_183 : decode cX3_ways 183 = .ok (.iload 7, 2) := by decide +kernel
theorem dX3_ways_185 : decode cX3_ways 185 = .ok (.iconst 1, 1) := by decide +kernel
theorem dX3_ways_186 : decode cX3_ways 186 = .ok (.iconst 3, 1) := by decide +kernel
theorem dX3_ways_187 : decode cX3_ways 187 = .ok (.iload_n 3, 1) := by decide +kernel
theorem dX3_ways_188 : decode cX3_ways 188 = .ok (.imul, 1) := by decide +kernel
theorem dX3_ways_189 : decode cX3_ways 189 = .ok (.ishl, 1) := by decide +kernel
theorem dX3_ways_190 : decode cX3_ways 190 = .ok (.if_icmp .ge 45, 3) := by decide +kernel
theorem dX3_ways_193 : decode cX3_ways 193 = .ok (.iload 6, 2) := by decide +kernel
theorem dX3_ways_195 : decode cX3_ways 195 = .ok (.ifCond .eq 40, 3) := by decide +kernel
theorem dX3_ways_198 : decode cX3_ways 198 = .ok (.iload 4, 2) := by decide +kernel
theorem dX3_ways_200 : decode cX3_ways 200 = .ok (.aload_n 0, 1) := by decide +kernel
theorem dX3_ways_201 : decode cX3_ways 201 = .ok (.getfield 25, 3) := by decide +kernel
theorem dX3_ways_204 : decode cX3_ways 204 = .ok (.iload 7, 2) := by decide +kernel
theorem dX3_ways_206 : decode cX3_ways 206 = .ok (.iload_n 3, 1) := by decide +kernel
theorem dX3_ways_207 : decode cX3_ways 207 = .ok (.invokestatic 89, 3) := by decide +kernel
theorem dX3_ways_210 : decode cX3_ways 210 = .ok (.ifCond .eq 15, 3) := by decide +kernel
theorem dX3_ways_213 : decode cX3_ways 213 = .ok (.aload_n 0, 1) := by decide +kernel
theorem dX3_ways_214 : decode cX3_ways 214 = .ok (.iload_n 3, 1) := by decide +kernel
theorem dX3_ways_215 : decode cX3_ways 215 = .ok (.invokevirtual 93, 3) := by decide +kernel
theorem dX3_ways_218 : decode cX3_ways 218 = .ok (.ifCond .eq 7, 3) := by decide +kernel
theorem dX3_ways_221 : decode cX3_ways 221 = .ok (.iconst 1, 1) := by decide +kernel
theorem dX3_ways_222 : decode cX3_ways 222 = .ok (.goto 4, 3) := by decide +kernel
theorem dX3_ways_225 : decode cX3_ways 225 = .ok (.iconst 0, 1) := by decide +kernel
theorem dX3_ways_226 : decode cX3_ways 226 = .ok (.iadd, 1) := by decide +kernel
theorem dX3_ways_227 : decode cX3_ways 227 = .ok (.istore 4, 2) := by decide +kernel
theorem dX3_ways_229 : decode cX3_ways 229 = .ok (.iinc 7 1, 3) := by decide +kernel
theorem dX3_ways_232 : decode cX3_ways 232 = .ok (.goto (-49), 3) := by decide +kernel
theorem dX3_ways_235 : decode cX3_ways 235 = .ok (.iinc 5 1, 3) := by decide +kernel
theorem dX3_ways_238 : decode cX3_ways 238 = .ok (.goto (-80), 3) := by decide +kernel
theorem dX3_ways_241 : decode cX3_ways 241 = .ok (.iload 4, 2) := by decide +kernel
theorem dX3_ways_243 : decode cX3_ways 243 = .ok (.ireturn, 1) := by decide +kernel
set_option maxRecDepth 20000 in
theorem ggX3_isPlace_X3_numbers : GoodIn wsX3_isPlace wsX3_numbers := goodIn_r _ [5, 6, 10, 11, 12, 13, 14, 15, 16] (by decide +kernel) (by decide +kernel)
set_option maxRecDepth 20000 in
theorem gX3_isPlace_X3_numbers : GoodIn wsX3_isPlace (wsV RX3 35 RX3 yX3_numbers wsX3_numbers) := goodIn_app (goodIn_of _ (by decide +kernel)) ggX3_isPlace_X3_numbers
set_option maxRecDepth 20000 in
theorem ggX3_isPlace_X3_in : GoodIn wsX3_isPlace wsX3_in := goodIn_r _ [9] (by decide +kernel) (by decide +kernel)
set_option maxRecDepth 20000 in
theorem gX3_isPlace_X3_in : GoodIn wsX3_isPlace (va_wsS RX3 31 yX3_in wsX3_in) := goodIn_app (goodIn_of _ (by decide +kernel)) ggX3_isPlace_X3_in
theorem dX3_isPlace_0 : decode cX3_isPlace 0 = .ok (.aload_n 0, 1) := by decide +kernel
theorem dX3_isPlace_1 : decode cX3_isPlace 1 = .ok (.iload_n 1, 1) := by decide +kernel
theorem dX3_isPlace_2 : decode cX3_isPlace 2 = .ok (.invokevirtual 35, 3) := by decide +kernel
theorem dX3_isPlace_5 : decode cX3_isPlace 5 = .ok (.istore_n 3, 1) := by decide +kernel
theorem dX3_isPlace_6 : decode cX3_isPlace 6 = .ok (.iload_n 2, 1) := by decide +kernel
theorem dX3_isPlace_7 : decode cX3_isPlace 7 = .ok (.iconst 0, 1) := by decide +kernel
theorem dX3_isPlace_8 : decode cX3_isPlace 8 = .ok (.iload_n 3, 1) := by decide +kernel
theorem dX3_isPlace_9 : decode cX3_isPlace 9 = .ok (.iload_n 3, 1) := by decide +kernel
theorem dX3_isPlace_10 : decode cX3_isPlace 10 = .ok (.imul, 1) := by decide +kernel
theorem dX3_isPlace_11 : decode cX3_isPlace 11 = .ok (.iload_n 3, 1) := by decide +kernel
theorem dX3_isPlace_12 : decode cX3_isPlace 12 = .ok (.iadd, 1) := by decide +kernel
theorem dX3_isPlace_13 : decode cX3_isPlace 13 = .ok (.invokestatic 31, 3) := by decide +kernel
theorem dX3_isPlace_16 : decode cX3_isPlace 16 = .ok (.ireturn, 1) := by decide +kernel
set_option maxRecDepth 20000 in
theorem ggX3_isOn_X3_numbers : GoodIn wsX3_isOn wsX3_numbers := goodIn_r _ [5, 6, 12, 13, 14, 15, 16, 17, 18] (by decide +kernel) (by decide +kernel)
set_option maxRecDepth 20000 in
theorem gX3_isOn_X3_numbers : GoodIn wsX3_isOn (wsV RX3 35 RX3 yX3_numbers wsX3_numbers) := goodIn_app (goodIn_of _ (by decide +kernel)) ggX3_isOn_X3_numbers
set_option maxRecDepth 20000 in
theorem ggX3_isOn_X3_times : GoodIn wsX3_isOn wsX3_times := goodIn_r _ [10, 6, 11, 12, 13, 14, 15, 16, 17, 18] (by decide +kernel) (by decide +kernel)
set_option maxRecDepth 20000 in
theorem gX3_isOn_X3_times : GoodIn wsX3_isOn (wsV RX3 51 RX3 yX3_times wsX3_times) := goodIn_app (goodIn_of _ (by decide +kernel)) ggX3_isOn_X3_times
theorem dX3_isOn_0 : decode cX3_isOn 0 = .ok (.aload_n 0, 1) := by decide +kernel
theorem dX3_isOn_1 : decode cX3_isOn 1 = .ok (.iload_n 1, 1) := by decide +kernel
theorem dX3_isOn_2 : decode cX3_isOn 2 = .ok (.invokevirtual 35, 3) := by decide +kernel
theorem dX3_isOn_5 : decode cX3_isOn 5 = .ok (.istore 4, 2) := by decide +kernel
theorem dX3_isOn_7 : decode cX3_isOn 7 = .ok (.iload 4, 2) := by decide +kernel
theorem dX3_isOn_9 : decode cX3_isOn 9 = .ok (.iload 4, 2) := by decide +kernel
theorem dX3_isOn_11 : decode cX3_isOn 11 = .ok (.imul, 1) := by decide +kernel
theorem dX3_isOn_12 : decode cX3_isOn 12 = .ok (.istore 5, 2) := by decide +kernel
theorem dX3_isOn_14 : decode cX3_isOn 14 = .ok (.iload_n 3, 1) := by decide +kernel
theorem dX3_isOn_15 : decode cX3_isOn 15 = .ok (.iload 5, 2) := by decide +kernel
theorem dX3_isOn_17 : decode cX3_isOn 17 = .ok (.iload 4, 2) := by decide +kernel
theorem dX3_isOn_19 : decode cX3_isOn 19 = .ok (.iadd, 1) := by decide +kernel
theorem dX3_isOn_20 : decode cX3_isOn 20 = .ok (.if_icmp .ne 15, 3) := by decide +kernel
theorem dX3_isOn_23 : decode cX3_isOn 23 = .ok (.iload_n 2, 1) := by decide +kernel
theorem dX3_isOn_24 : decode cX3_isOn 24 = .ok (.iload 5, 2) := by decide +kernel
theorem dX3_isOn_26 : decode cX3_isOn 26 = .ok (.if_icmp .lt 7, 3) := by decide +kernel
theorem dX3_isOn_29 : decode cX3_isOn 29 = .ok (.iconst 1, 1) := by decide +kernel
theorem dX3_isOn_30 : decode cX3_isOn 30 = .ok (.goto 4, 3) := by decide +kernel
theorem dX3_isOn_33 : decode cX3_isOn 33 = .ok (.iconst 0, 1) := by decide +kernel
theorem dX3_isOn_34 : decode cX3_isOn 34 = .ok (.ireturn, 1) := by decide +kernel
theorem dX3_isOn_35 : decode cX3_isOn 35 = .ok (.iload_n 3, 1) := by decide +kernel
theorem dX3_isOn_36 : decode cX3_isOn 36 = .ok (.iload 5, 2) := by decide +kernel
theorem dX3_isOn_38 : decode cX3_isOn 38 = .ok (.if_icmp .lt 35, 3) := by decide +kernel
theorem dX3_isOn_41 : decode cX3_isOn 41 = .ok (.iload_n 2, 1) := by decide +kernel
theorem dX3_isOn_42 : decode cX3_isOn 42 = .ok (.iload 5, 2) := by decide +kernel
theorem dX3_isOn_44 : decode cX3_isOn 44 = .ok (.iload 4, 2) := by decide +kernel
theorem dX3_isOn_46 : decode cX3_isOn 46 = .ok (.iadd, 1) := by decide +kernel
theorem dX3_isOn_47 : decode cX3_isOn 47 = .ok (.if_icmp .eq 20, 3) := by decide +kernel
theorem dX3_isOn_50 : decode cX3_isOn 50 = .ok (.iload_n 2, 1) := by decide +kernel
theorem dX3_isOn_51 : decode cX3_isOn 51 = .ok (.iload 5, 2) := by decide +kernel
theorem dX3_isOn_53 : decode cX3_isOn 53 = .ok (.if_icmp .ge 18, 3) := by decide +kernel
theorem dX3_isOn_56 : decode cX3_isOn 56 = .ok (.iload_n 2, 1) := by decide +kernel
theorem dX3_isOn_57 : decode cX3_isOn 57 = .ok (.iload 4, 2) := by decide +kernel
theorem dX3_isOn_59 : decode cX3_isOn 59 = .ok (.idiv, 1) := by decide +kernel
theorem dX3_isOn_60 : decode cX3_isOn 60 = .ok (.iload_n 3, 1) := by decide +kernel
theorem dX3_isOn_61 : decode cX3_isOn 61 = .ok (.iload 5, 2) := by decide +kernel
theorem dX3_isOn_63 : decode cX3_isOn 63 = .ok (.isub, 1) := by decide +kernel
theorem dX3_isOn_64 : decode cX3_isOn 64 = .ok (.if_icmp .ne 7, 3) := by decide +kernel
theorem dX3_isOn_67 : decode cX3_isOn 67 = .ok (.iconst 1, 1) := by decide +kernel
theorem dX3_isOn_68 : decode cX3_isOn 68 = .ok (.goto 4, 3) := by decide +kernel
theorem dX3_isOn_71 : decode cX3_isOn 71 = .ok (.iconst 0, 1) := by decide +kernel
theorem dX3_isOn_72 : decode cX3_isOn 72 = .ok (.ireturn, 1) := by decide +kernel
theorem dX3_isOn_73 : decode cX3_isOn 73 = .ok (.iload_n 2, 1) := by decide +kernel
theorem dX3_isOn_74 : decode cX3_isOn 74 = .ok (.iload 5, 2) := by decide +kernel
theorem dX3_isOn_76 : decode cX3_isOn 76 = .ok (.if_icmp .ge 36, 3) := by decide +kernel
theorem dX3_isOn_79 : decode cX3_isOn 79 = .ok (.aload_n 0, 1) := by decide +kernel
theorem dX3_isOn_80 : decode cX3_isOn 80 = .ok (.iload_n 1, 1) := by decide +kernel
theorem dX3_isOn_81 : decode cX3_isOn 81 = .ok (.iload_n 3, 1) := by decide +kernel
theorem dX3_isOn_82 : decode cX3_isOn 82 = .ok (.iload 4, 2) := by decide +kernel
theorem dX3_isOn_84 : decode cX3_isOn 84 = .ok (.idiv, 1) := by decide +kernel
theorem dX3_isOn_85 : decode cX3_isOn 85 = .ok (.iload_n 2, 1) := by decide +kernel
theorem dX3_isOn_86 : decode cX3_isOn 86 = .ok (.iload 4, 2) := by decide +kernel
theorem dX3_isOn_88 : decode cX3_isOn 88 = .ok (.idiv, 1) := by decide +kernel
theorem dX3_isOn_89 : decode cX3_isOn 89 = .ok (.invokevirtual 51, 3) := by decide +kernel
theorem dX3_isOn_92 : decode cX3_isOn 92 = .ok (.iload_n 3, 1) := by decide +kernel
theorem dX3_isOn_93 : decode cX3_isOn 93 = .ok (.iload 4, 2) := by decide +kernel
theorem dX3_isOn_95 : decode cX3_isOn 95 = .ok (.irem, 1) := by decide +kernel
theorem dX3_isOn_96 : decode cX3_isOn 96 = .ok (.ixor, 1) := by decide +kernel
theorem dX3_isOn_97 : decode cX3_isOn 97 = .ok (.iload_n 2, 1) := by decide +kernel
theorem dX3_isOn_98 : decode cX3_isOn 98 = .ok (.iload 4, 2) := by decide +kernel
theorem dX3_isOn_100 : decode cX3_isOn 100 = .ok (.irem, 1) := by decide +kernel
theorem dX3_isOn_101 : decode cX3_isOn 101 = .ok (.if_icmp .ne 7, 3) := by decide +kernel
theorem dX3_isOn_104 : decode cX3_isOn 104 = .ok (.iconst 1, 1) := by decide +kernel
theorem dX3_isOn_105 : decode cX3_isOn 105 = .ok (.goto 23, 3) := by decide +kernel
theorem dX3_isOn_108 : decode cX3_isOn 108 = .ok (.iconst 0, 1) := by decide +kernel
theorem dX3_isOn_109 : decode cX3_isOn 109 = .ok (.goto 19, 3) := by decide +kernel
theorem dX3_isOn_112 : decode cX3_isOn 112 = .ok (.iload_n 2, 1) := by decide +kernel
theorem dX3_isOn_113 : decode cX3_isOn 113 = .ok (.iload 5, 2) := by decide +kernel
theorem dX3_isOn_115 : decode cX3_isOn 115 = .ok (.iload_n 3, 1) := by decide +kernel
theorem dX3_isOn_116 : decode cX3_isOn 116 = .ok (.iload 4, 2) := by decide +kernel
theorem dX3_isOn_118 : decode cX3_isOn 118 = .ok (.idiv, 1) := by decide +kernel
theorem dX3_isOn_119 : decode cX3_isOn 119 = .ok (.iadd, 1) := by decide +kernel
theorem dX3_isOn_120 : decode cX3_isOn 120 = .ok (.if_icmp .ne 7, 3) := by decide +kernel
theorem dX3_isOn_123 : decode cX3_isOn 123 = .ok (.iconst 1, 1) := by decide +kernel
theorem dX3_isOn_124 : decode cX3_isOn 124 = .ok (.goto 4, 3) := by decide +kernel
theorem dX3_isOn_127 : decode cX3_isOn 127 = .ok (.iconst 0, 1) := by decide +kernel
theorem dX3_isOn_128 : decode cX3_isOn 128 = .ok (.ireturn, 1) := by decide +kernel
set_option maxRecDepth 20000 in
theorem ggX3_on_X3_isSlot : GoodIn wsX3_on wsX3_isSlot := goodIn_r _ [4, 5, 6, 3, 7] (by decide +kernel) (by decide +kernel)
set_option maxRecDepth 20000 in
theorem gX3_on_X3_isSlot : GoodIn wsX3_on (va_wsS RX3 39 yX3_isSlot wsX3_isSlot) := goodIn_app (goodIn_of _ (by decide +kernel)) ggX3_on_X3_isSlot
set_option maxRecDepth 20000 in
theorem ggX3_on_X3_isPlace : GoodIn wsX3_on wsX3_isPlace := goodIn_r _ [11, 12, 13, 14, 3, 15, 16, 5, 6, 7, 26, 27, 28, 29, 30, 31, 32] (by decide +kernel) (by decide +kernel)
set_option maxRecDepth 20000 in
theorem gX3_on_X3_isPlace : GoodIn wsX3_on (wsV RX3 96 RX3 yX3_isPlace wsX3_isPlace) := goodIn_app (goodIn_of _ (by decide +kernel)) ggX3_on_X3_isPlace
set_option maxRecDepth 20000 in
theorem ggX3_on_X3_isOn : GoodIn wsX3_on wsX3_isOn := goodIn_r _ [20, 12, 13, 14, 3, 15, 16, 21, 22, 23, 24, 25, 26, 27, 28, 29, 30, 31, 32] (by decide +kernel) (by decide +kernel)
set_option maxRecDepth 20000 in
theorem gX3_on_X3_isOn : GoodIn wsX3_on (wsV RX3 99 RX3 yX3_isOn wsX3_isOn) := goodIn_app (goodIn_of _ (by decide +kernel)) ggX3_on_X3_isOn
theorem dX3_on_0 : decode cX3_on 0 = .ok (.iload_n 1, 1) := by decide +kernel
theorem dX3_on_1 : decode cX3_on 1 = .ok (.invokestatic 39, 3) := by decide +kernel
theorem dX3_on_4 : decode cX3_on 4 = .ok (.ifCond .eq 21, 3) := by decide +kernel
theorem dX3_on_7 : decode cX3_on 7 = .ok (.aload_n 0, 1) := by decide +kernel
theorem dX3_on_8 : decode cX3_on 8 = .ok (.iload_n 1, 1) := by decide +kernel
theorem dX3_on_9 : decode cX3_on 9 = .ok (.iload_n 2, 1) := by decide +kernel
theorem dX3_on_10 : decode cX3_on 10 = .ok (.invokevirtual 96, 3) := by decide +kernel
theorem dX3_on_13 : decode cX3_on 13 = .ok (.ifCond .eq 12, 3) := by decide +kernel
theorem dX3_on_16 : decode cX3_on 16 = .ok (.aload_n 0, 1) := by decide +kernel
theorem dX3_on_17 : decode cX3_on 17 = .ok (.iload_n 1, 1) := by decide +kernel
theorem dX3_on_18 : decode cX3_on 18 = .ok (.iload_n 3, 1) := by decide +kernel
theorem dX3_on_19 : decode cX3_on 19 = .ok (.invokevirtual 96, 3) := by decide +kernel
theorem dX3_on_22 : decode cX3_on 22 = .ok (.ifCond .ne 5, 3) := by decide +kernel
theorem dX3_on_25 : decode cX3_on 25 = .ok (.iconst (-1), 1) := by decide +kernel
theorem dX3_on_26 : decode cX3_on 26 = .ok (.ireturn, 1) := by decide +kernel
theorem dX3_on_27 : decode cX3_on 27 = .ok (.aload_n 0, 1) := by decide +kernel
theorem dX3_on_28 : decode cX3_on 28 = .ok (.iload_n 1, 1) := by decide +kernel
theorem dX3_on_29 : decode cX3_on 29 = .ok (.iload_n 2, 1) := by decide +kernel
theorem dX3_on_30 : decode cX3_on 30 = .ok (.iload_n 3, 1) := by decide +kernel
theorem dX3_on_31 : decode cX3_on 31 = .ok (.invokevirtual 99, 3) := by decide +kernel
theorem dX3_on_34 : decode cX3_on 34 = .ok (.ifCond .eq 7, 3) := by decide +kernel
theorem dX3_on_37 : decode cX3_on 37 = .ok (.iconst 1, 1) := by decide +kernel
theorem dX3_on_38 : decode cX3_on 38 = .ok (.goto 4, 3) := by decide +kernel
theorem dX3_on_41 : decode cX3_on 41 = .ok (.iconst 0, 1) := by decide +kernel
theorem dX3_on_42 : decode cX3_on 42 = .ok (.ireturn, 1) := by decide +kernel
set_option maxRecDepth 20000 in
theorem ggX3_common_X3_isPlace : GoodIn wsX3_common wsX3_isPlace := goodIn_r _ [5, 6, 7, 8, 4, 9, 10, 11, 12, 13, 23, 24, 25, 26, 27, 28, 29] (by decide +kernel) (by decide +kernel)
set_option maxRecDepth 20000 in
theorem gX3_common_X3_isPlace : GoodIn wsX3_common (wsV RX3 96 RX3 yX3_isPlace wsX3_isPlace) := goodIn_app (goodIn_of _ (by decide +kernel)) ggX3_common_X3_isPlace
set_option maxRecDepth 20000 in
theorem ggX3_common_X3_isOn : GoodIn wsX3_common wsX3_isOn := goodIn_r _ [17, 6, 7, 8, 4, 9, 10, 18, 19, 20, 21, 22, 23, 24, 25, 26, 27, 28, 29] (by decide +kernel) (by decide +kernel)
set_option maxRecDepth 20000 in
theorem gX3_common_X3_isOn : GoodIn wsX3_common (wsV RX3 99 RX3 yX3_isOn wsX3_isOn) := goodIn_app (goodIn_of _ (by decide +kernel)) ggX3_common_X3_isOn
theorem dX3_common_0 : decode cX3_common 0 = .ok (.bipush (-9), 2) := by decide +kernel
theorem dX3_common_2 : decode cX3_common 2 = .ok (.istore 5, 2) := by decide +kernel
theorem dX3_common_4 : decode cX3_common 4 = .ok (.iconst 0, 1) := by decide +kernel
theorem dX3_common_5 : decode cX3_common 5 = .ok (.istore 6, 2) := by decide +kernel
theorem dX3_common_7 : decode cX3_common 7 = .ok (.iconst 0, 1) := by decide +kernel
theorem dX3_common_8 : decode cX3_common 8 = .ok (.istore 7, 2) := by decide +kernel
theorem dX3_common_10 : decode cX3_common 10 = .ok (.aload_n 0, 1) := by decide +kernel
theorem dX3_common_11 : decode cX3_common 11 = .ok (.iload_n 1, 1) := by decide +kernel
theorem dX3_common_12 : decode cX3_common 12 = .ok (.iload 7, 2) := by decide +kernel
theorem dX3_common_14 : decode cX3_common 14 = .ok (.invokevirtual 96, 3) := by decide +kernel
theorem dX3_common_17 : decode cX3_common 17 = .ok (.ifCond .eq 68, 3) := by decide +kernel
theorem dX3_common_20 : decode cX3_common 20 = .ok (.iload 4, 2) := by decide +kernel
theorem dX3_common_22 : decode cX3_common 22 = .ok (.ifCond .eq 28, 3) := by decide +kernel
theorem dX3_common_25 : decode cX3_common 25 = .ok (.aload_n 0, 1) := by decide +kernel
theorem dX3_common_26 : decode cX3_common 26 = .ok (.iload_n 1, 1) := by decide +kernel
theorem dX3_common_27 : decode cX3_common 27 = .ok (.iload_n 2, 1) := by decide +kernel
theorem dX3_common_28 : decode cX3_common 28 = .ok (.iload 7, 2) := by decide +kernel
theorem dX3_common_30 : decode cX3_common 30 = .ok (.invokevirtual 99, 3) := by decide +kernel
theorem dX3_common_33 : decode cX3_common 33 = .ok (.ifCond .eq 46, 3) := by decide +kernel
theorem dX3_common_36 : decode cX3_common 36 = .ok (.aload_n 0, 1) := by decide +kernel
theorem dX3_common_37 : decode cX3_common 37 = .ok (.iload_n 1, 1) := by decide +kernel
theorem dX3_common_38 : decode cX3_common 38 = .ok (.iload_n 3, 1) := by decide +kernel
theorem dX3_common_39 : decode cX3_common 39 = .ok (.iload 7, 2) := by decide +kernel
theorem dX3_common_41 : decode cX3_common 41 = .ok (.invokevirtual 99, 3) := by decide +kernel
theorem dX3_common_44 : decode cX3_common 44 = .ok (.ifCond .eq 35, 3) := by decide +kernel
theorem dX3_common_47 : decode cX3_common 47 = .ok (.goto 25, 3) := by decide +kernel
theorem dX3_common_50 : decode cX3_common 50 = .ok (.aload_n 0, 1) := by decide +kernel
theorem dX3_common_51 : decode cX3_common 51 = .ok (.iload_n 1, 1) := by decide +kernel
theorem dX3_common_52 : decode cX3_common 52 = .ok (.iload 7, 2) := by decide +kernel
theorem dX3_common_54 : decode cX3_common 54 = .ok (.iload_n 2, 1) := by decide +kernel
theorem dX3_common_55 : decode cX3_common 55 = .ok (.invokevirtual 99, 3) := by decide +kernel
theorem dX3_common_58 : decode cX3_common 58 = .ok (.ifCond .eq 21, 3) := by decide +kernel
theorem dX3_common_61 : decode cX3_common 61 = .ok (.aload_n 0, 1) := by decide +kernel
theorem dX3_common_62 : decode cX3_common 62 = .ok (.iload_n 1, 1) := by decide +kernel
theorem dX3_common_63 : decode cX3_common 63 = .ok (.iload 7, 2) := by decide +kernel
theorem dX3_common_65 : decode cX3_common 65 = .ok (.iload_n 3, 1) := by decide +kernel
theorem dX3_common_66 : decode cX3_common 66 = .ok (.invokevirtual 99, 3) := by decide +kernel
theorem dX3_common_69 : decode cX3_common 69 = .ok (.ifCond .eq 10, 3) := by decide +kernel
theorem dX3_common_72 : decode cX3_common 72 = .ok (.iload 7, 2) := by decide +kernel
theorem dX3_common_74 : decode cX3_common 74 = .ok (.istore 5, 2) := by decide +kernel
theorem dX3_common_76 : decode cX3_common 76 = .ok (.iinc 6 1, 3) := by decide +kernel
theorem dX3_common_79 : decode cX3_common 79 = .ok (.iinc 7 1, 3) := by decide +kernel
theorem dX3_common_82 : decode cX3_common 82 = .ok (.goto (-72), 3) := by decide +kernel
theorem dX3_common_85 : decode cX3_common 85 = .ok (.iload 6, 2) := by decide +kernel
theorem dX3_common_87 : decode cX3_common 87 = .ok (.iconst 1, 1) := by decide +kernel
theorem dX3_common_88 : decode cX3_common 88 = .ok (.if_icmp .ne 8, 3) := by decide +kernel
theorem dX3_common_91 : decode cX3_common 91 = .ok (.iload 5, 2) := by decide +kernel
theorem dX3_common_93 : decode cX3_common 93 = .ok (.goto 5, 3) := by decide +kernel
theorem dX3_common_96 : decode cX3_common 96 = .ok (.bipush (-9), 2) := by decide +kernel
theorem dX3_common_98 : decode cX3_common 98 = .ok (.ireturn, 1) := by decide +kernel
set_option maxRecDepth 20000 in
theorem ggX3_join_X3_isSlot : GoodIn wsX3_join wsX3_isSlot := goodIn_r _ [4, 5, 6, 3, 7] (by decide +kernel) (by decide +kernel)
set_option maxRecDepth 20000 in
theorem gX3_join_X3_isSlot : GoodIn wsX3_join (va_wsS RX3 39 yX3_isSlot wsX3_isSlot) := goodIn_app (goodIn_of _ (by decide +kernel)) ggX3_join_X3_isSlot
set_option maxRecDepth 20000 in
theorem ggX3_join_X3_isPlace : GoodIn wsX3_join wsX3_isPlace := goodIn_r _ [11, 12, 13, 14, 3, 15, 16, 5, 6, 7, 30, 31, 32, 33, 34, 35, 36] (by decide +kernel) (by decide +kernel)
set_option maxRecDepth 20000 in
theorem gX3_join_X3_isPlace : GoodIn wsX3_join (wsV RX3 96 RX3 yX3_isPlace wsX3_isPlace) := goodIn_app (goodIn_of _ (by decide +kernel)) ggX3_join_X3_isPlace
set_option maxRecDepth 20000 in
theorem ggX3_join_X3_common : GoodIn wsX3_join wsX3_common := goodIn_r _ [20, 8, 9, 10, 3, 11, 12, 13, 14, 15, 16, 5, 6, 7, 21, 22, 23, 24, 25, 26, 27, 28, 29, 30, 31, 32, 33, 34, 35, 36] (by decide +kernel) (by decide +kernel)
set_option maxRecDepth 20000 in
theorem gX3_join_X3_common : GoodIn wsX3_join (wsV RX3 102 RX3 yX3_common wsX3_common) := goodIn_app (goodIn_of _ (by decide +kernel)) ggX3_join_X3_common
theorem dX3_join_0 : decode cX3_join 0 = .ok (.iload_n 1, 1) := by decide +kernel
theorem dX3_join_1 : decode cX3_join 1 = .ok (.invokestatic 39, 3) := by decide +kernel
theorem dX3_join_4 : decode cX3_join 4 = .ok (.ifCond .eq 21, 3) := by decide +kernel
theorem dX3_join_7 : decode cX3_join 7 = .ok (.aload_n 0, 1) := by decide +kernel
theorem dX3_join_8 : decode cX3_join 8 = .ok (.iload_n 1, 1) := by decide +kernel
theorem dX3_join_9 : decode cX3_join 9 = .ok (.iload_n 2, 1) := by decide +kernel
theorem dX3_join_10 : decode cX3_join 10 = .ok (.invokevirtual 96, 3) := by decide +kernel
theorem dX3_join_13 : decode cX3_join 13 = .ok (.ifCond .eq 12, 3) := by decide +kernel
theorem dX3_join_16 : decode cX3_join 16 = .ok (.aload_n 0, 1) := by decide +kernel
theorem dX3_join_17 : decode cX3_join 17 = .ok (.iload_n 1, 1) := by decide +kernel
theorem dX3_join_18 : decode cX3_join 18 = .ok (.iload_n 3, 1) := by decide +kernel
theorem dX3_join_19 : decode cX3_join 19 = .ok (.invokevirtual 96, 3) := by decide +kernel
theorem dX3_join_22 : decode cX3_join 22 = .ok (.ifCond .ne 5, 3) := by decide +kernel
theorem dX3_join_25 : decode cX3_join 25 = .ok (.iconst (-1), 1) := by decide +kernel
theorem dX3_join_26 : decode cX3_join 26 = .ok (.ireturn, 1) := by decide +kernel
theorem dX3_join_27 : decode cX3_join 27 = .ok (.iload_n 2, 1) := by decide +kernel
theorem dX3_join_28 : decode cX3_join 28 = .ok (.iload_n 3, 1) := by decide +kernel
theorem dX3_join_29 : decode cX3_join 29 = .ok (.if_icmp .ne 8, 3) := by decide +kernel
theorem dX3_join_32 : decode cX3_join 32 = .ok (.bipush (-3), 2) := by decide +kernel
theorem dX3_join_34 : decode cX3_join 34 = .ok (.goto 11, 3) := by decide +kernel
theorem dX3_join_37 : decode cX3_join 37 = .ok (.aload_n 0, 1) := by decide +kernel
theorem dX3_join_38 : decode cX3_join 38 = .ok (.iload_n 1, 1) := by decide +kernel
theorem dX3_join_39 : decode cX3_join 39 = .ok (.iload_n 2, 1) := by decide +kernel
theorem dX3_join_40 : decode cX3_join 40 = .ok (.iload_n 3, 1) := by decide +kernel
theorem dX3_join_41 : decode cX3_join 41 = .ok (.iconst 1, 1) := by decide +kernel
theorem dX3_join_42 : decode cX3_join 42 = .ok (.invokevirtual 102, 3) := by decide +kernel
theorem dX3_join_45 : decode cX3_join 45 = .ok (.ireturn, 1) := by decide +kernel
set_option maxRecDepth 20000 in
theorem ggX3_meet_X3_isSlot : GoodIn wsX3_meet wsX3_isSlot := goodIn_r _ [4, 5, 6, 3, 7] (by decide +kernel) (by decide +kernel)
set_option maxRecDepth 20000 in
theorem gX3_meet_X3_isSlot : GoodIn wsX3_meet (va_wsS RX3 39 yX3_isSlot wsX3_isSlot) := goodIn_app (goodIn_of _ (by decide +kernel)) ggX3_meet_X3_isSlot
set_option maxRecDepth 20000 in
theorem ggX3_meet_X3_isPlace : GoodIn wsX3_meet wsX3_isPlace := goodIn_r _ [11, 12, 13, 14, 3, 15, 16, 5, 6, 7, 30, 31, 32, 33, 34, 35, 36] (by decide +kernel) (by decide +kernel)
set_option maxRecDepth 20000 in
theorem gX3_meet_X3_isPlace : GoodIn wsX3_meet (wsV RX3 96 RX3 yX3_isPlace wsX3_isPlace) := goodIn_app (goodIn_of _ (by decide +kernel)) ggX3_meet_X3_isPlace
set_option maxRecDepth 20000 in
theorem ggX3_meet_X3_common : GoodIn wsX3_meet wsX3_common := goodIn_r _ [20, 8, 9, 10, 3, 11, 12, 13, 14, 15, 16, 5, 6, 7, 21, 22, 23, 24, 25, 26, 27, 28, 29, 30, 31, 32, 33, 34, 35, 36] (by decide +kernel) (by decide +kernel)
set_option maxRecDepth 20000 in
theorem gX3_meet_X3_common : GoodIn wsX3_meet (wsV RX3 102 RX3 yX3_common wsX3_common) := goodIn_app (goodIn_of _ (by decide +kernel)) ggX3_meet_X3_common
theorem dX3_meet_0 : decode cX3_meet 0 = .ok (.iload_n 1, 1) := by decide +kernel
theorem dX3_meet_1 : decode cX3_meet 1 = .ok (.invokestatic 39, 3) := by decide +kernel
theorem dX3_meet_4 : decode cX3_meet 4 = .ok (.ifCond .eq 21, 3) := by decide +kernel
theorem dX3_meet_7 : decode cX3_meet 7 = .ok (.aload_n 0, 1) := by decide +kernel
theorem dX3_meet_8 : decode cX3_meet 8 = .ok (.iload_n 1, 1) := by decide +kernel
theorem dX3_meet_9 : decode cX3_meet 9 = .ok (.iload_n 2, 1) := by decide +kernel
theorem dX3_meet_10 : decode cX3_meet 10 = .ok (.invokevirtual 96, 3) := by decide +kernel
theorem dX3_meet_13 : decode cX3_meet 13 = .ok (.ifCond .eq 12, 3) := by decide +kernel
theorem dX3_meet_16 : decode cX3_meet 16 = .ok (.aload_n 0, 1) := by decide +kernel
theorem dX3_meet_17 : decode cX3_meet 17 = .ok (.iload_n 1, 1) := by decide +kernel
theorem dX3_meet_18 : decode cX3_meet 18 = .ok (.iload_n 3, 1) := by decide +kernel
theorem dX3_meet_19 : decode cX3_meet 19 = .ok (.invokevirtual 96, 3) := by decide +kernel
theorem dX3_meet_22 : decode cX3_meet 22 = .ok (.ifCond .ne 5, 3) := by decide +kernel
theorem dX3_meet_25 : decode cX3_meet 25 = .ok (.iconst (-1), 1) := by decide +kernel
theorem dX3_meet_26 : decode cX3_meet 26 = .ok (.ireturn, 1) := by decide +kernel
theorem dX3_meet_27 : decode cX3_meet 27 = .ok (.iload_n 2, 1) := by decide +kernel
theorem dX3_meet_28 : decode cX3_meet 28 = .ok (.iload_n 3, 1) := by decide +kernel
theorem dX3_meet_29 : decode cX3_meet 29 = .ok (.if_icmp .ne 8, 3) := by decide +kernel
theorem dX3_meet_32 : decode cX3_meet 32 = .ok (.bipush (-3), 2) := by decide +kernel
theorem dX3_meet_34 : decode cX3_meet 34 = .ok (.goto 11, 3) := by decide +kernel
theorem dX3_meet_37 : decode cX3_meet 37 = .ok (.aload_n 0, 1) := by decide +kernel
theorem dX3_meet_38 : decode cX3_meet 38 = .ok (.iload_n 1, 1) := by decide +kernel
theorem dX3_meet_39 : decode cX3_meet 39 = .ok (.iload_n 2, 1) := by decide +kernel
theorem dX3_meet_40 : decode cX3_meet 40 = .ok (.iload_n 3, 1) := by decide +kernel
theorem dX3_meet_41 : decode cX3_meet 41 = .ok (.iconst 0, 1) := by decide +kernel
theorem dX3_meet_42 : decode cX3_meet 42 = .ok (.invokevirtual 102, 3) := by decide +kernel
theorem dX3_meet_45 : decode cX3_meet 45 = .ok (.ireturn, 1) := by decide +kernel
set_option maxRecDepth 20000 in
theorem ggX3_bad_X3_isSlot : GoodIn wsX3_bad wsX3_isSlot := goodIn_r _ [4, 5, 6, 3, 7] (by decide +kernel) (by decide +kernel)
set_option maxRecDepth 20000 in
theorem gX3_bad_X3_isSlot : GoodIn wsX3_bad (va_wsS RX3 39 yX3_isSlot wsX3_isSlot) := goodIn_app (goodIn_of _ (by decide +kernel)) ggX3_bad_X3_isSlot
set_option maxRecDepth 20000 in
theorem ggX3_bad_X3_numbers : GoodIn wsX3_bad wsX3_numbers := goodIn_r _ [11, 12, 18, 19, 20, 21, 22, 23, 24] (by decide +kernel) (by decide +kernel)
set_option maxRecDepth 20000 in
theorem gX3_bad_X3_numbers : GoodIn wsX3_bad (wsV RX3 35 RX3 yX3_numbers wsX3_numbers) := goodIn_app (goodIn_of _ (by decide +kernel)) ggX3_bad_X3_numbers
set_option maxRecDepth 20000 in
theorem ggX3_bad_X3_times : GoodIn wsX3_bad wsX3_times := goodIn_r _ [16, 12, 17, 18, 19, 20, 21, 22, 23, 24] (by decide +kernel) (by decide +kernel)
set_option maxRecDepth 20000 in
theorem gX3_bad_X3_times : GoodIn wsX3_bad (wsV RX3 51 RX3 yX3_times wsX3_times) := goodIn_app (goodIn_of _ (by decide +kernel)) ggX3_bad_X3_times
theorem dX3_bad_0 : decode cX3_bad 0 = .ok (.iload_n 1, 1) := by decide +kernel
theorem dX3_bad_1 : decode cX3_bad 1 = .ok (.invokestatic 39, 3) := by decide +kernel
theorem dX3_bad_4 : decode cX3_bad 4 = .ok (.ifCond .ne 5, 3) := by decide +kernel
theorem dX3_bad_7 : decode cX3_bad 7 = .ok (.iconst (-1), 1) := by decide +kernel
theorem dX3_bad_8 : decode cX3_bad 8 = .ok (.ireturn, 1) := by decide +kernel
theorem dX3_bad_9 : decode cX3_bad 9 = .ok (.aload_n 0, 1) := by decide +kernel
theorem dX3_bad_10 : decode cX3_bad 10 = .ok (.iload_n 1, 1) := by decide +kernel
theorem dX3_bad_11 : decode cX3_bad 11 = .ok (.invokevirtual 35, 3) := by decide +kernel
theorem dX3_bad_14 : decode cX3_bad 14 = .ok (.istore_n 2, 1) := by decide +kernel
theorem dX3_bad_15 : decode cX3_bad 15 = .ok (.iconst 0, 1) := by decide +kernel
theorem dX3_bad_16 : decode cX3_bad 16 = .ok (.istore_n 3, 1) := by decide +kernel
theorem dX3_bad_17 : decode cX3_bad 17 = .ok (.iconst 1, 1) := by decide +kernel
theorem dX3_bad_18 : decode cX3_bad 18 = .ok (.istore 4, 2) := by decide +kernel
theorem dX3_bad_20 : decode cX3_bad 20 = .ok (.iload 4, 2) := by decide +kernel
theorem dX3_bad_22 : decode cX3_bad 22 = .ok (.iload_n 2, 1) := by decide +kernel
theorem dX3_bad_23 : decode cX3_bad 23 = .ok (.if_icmp .ge 84, 3) := by decide +kernel
theorem dX3_bad_26 : decode cX3_bad 26 = .ok (.iconst 0, 1) := by decide +kernel
theorem dX3_bad_27 : decode cX3_bad 27 = .ok (.istore 5, 2) := by decide +kernel
theorem dX3_bad_29 : decode cX3_bad 29 = .ok (.iload 5, 2) := by decide +kernel
theorem dX3_bad_31 : decode cX3_bad 31 = .ok (.iload_n 2, 1) := by decide +kernel
theorem dX3_bad_32 : decode cX3_bad 32 = .ok (.if_icmp .ge 69, 3) := by decide +kernel
theorem dX3_bad_35 : decode cX3_bad 35 = .ok (.iconst 0, 1) := by decide +kernel
theorem dX3_bad_36 : decode cX3_bad 36 = .ok (.istore 6, 2) := by decide +kernel
theorem dX3_bad_38 : decode cX3_bad 38 = .ok (.iconst 0, 1) := by decide +kernel
theorem dX3_bad_39 : decode cX3_bad 39 = .ok (.istore 7, 2) := by decide +kernel
theorem dX3_bad_41 : decode cX3_bad 41 = .ok (.iload 7, 2) := by decide +kernel
theorem dX3_bad_43 : decode cX3_bad 43 = .ok (.iload_n 2, 1) := by decide +kernel
theorem dX3_bad_44 : decode cX3_bad 44 = .ok (.if_icmp .ge 33, 3) := by decide +kernel
theorem dX3_bad_47 : decode cX3_bad 47 = .ok (.iload 6, 2) := by decide +kernel
theorem dX3_bad_49 : decode cX3_bad 49 = .ok (.aload_n 0, 1) := by decide +kernel
theorem dX3_bad_50 : decode cX3_bad 50 = .ok (.iload_n 1, 1) := by decide +kernel
theorem dX3_bad_51 : decode cX3_bad 51 = .ok (.iload 4, 2) := by decide +kernel
theorem dX3_bad_53 : decode cX3_bad 53 = .ok (.iload 7, 2) := by decide +kernel
theorem dX3_bad_55 : decode cX3_bad 55 = .ok (.invokevirtual 51, 3) := by decide +kernel
theorem dX3_bad_58 : decode cX3_bad 58 = .ok (.iload 5, 2) := by decide +kernel
theorem dX3_bad_60 : decode cX3_bad 60 = .ok (.if_icmp .ne 7, 3) := by decide +kernel
theorem dX3_bad_63 : decode cX3_bad 63 = .ok (.iconst 1, 1) := by decide +kernel
theorem dX3_bad_64 : decode cX3_bad 64 = .ok (.goto 4, 3) := by decide +kernel
theorem dX3_bad_67 : decode cX3_bad 67 = .ok (.iconst 0, 1) := by decide +kernel
theorem dX3_bad_68 : decode cX3_bad 68 = .ok (.iadd, 1) := by decide +kernel
theorem dX3_bad_69 : decode cX3_bad 69 = .ok (.istore 6, 2) := by decide +kernel
theorem dX3_bad_71 : decode cX3_bad 71 = .ok (.iinc 7 1, 3) := by decide +kernel
theorem dX3_bad_74 : decode cX3_bad 74 = .ok (.goto (-33), 3) := by decide +kernel
theorem dX3_bad_77 : decode cX3_bad 77 = .ok (.iload_n 3, 1) := by decide +kernel
theorem dX3_bad_78 : decode cX3_bad 78 = .ok (.iload 6, 2) := by decide +kernel
theorem dX3_bad_80 : decode cX3_bad 80 = .ok (.iconst 1, 1) := by decide +kernel
theorem dX3_bad_81 : decode cX3_bad 81 = .ok (.if_icmp .eq 11, 3) := by decide +kernel
theorem dX3_bad_84 : decode cX3_bad 84 = .ok (.iload_n 2, 1) := by decide +kernel
theorem dX3_bad_85 : decode cX3_bad 85 = .ok (.iconst 2, 1) := by decide +kernel
theorem dX3_bad_86 : decode cX3_bad 86 = .ok (.idiv, 1) := by decide +kernel
theorem dX3_bad_87 : decode cX3_bad 87 = .ok (.iload_n 2, 1) := by decide +kernel
theorem dX3_bad_88 : decode cX3_bad 88 = .ok (.imul, 1) := by decide +kernel
theorem dX3_bad_89 : decode cX3_bad 89 = .ok (.goto 4, 3) := by decide +kernel
theorem dX3_bad_92 : decode cX3_bad 92 = .ok (.iconst 0, 1) := by decide +kernel
theorem dX3_bad_93 : decode cX3_bad 93 = .ok (.iadd, 1) := by decide +kernel
theorem dX3_bad_94 : decode cX3_bad 94 = .ok (.istore_n 3, 1) := by decide +kernel
theorem dX3_bad_95 : decode cX3_bad 95 = .ok (.iinc 5 1, 3) := by decide +kernel
theorem dX3_bad_98 : decode cX3_bad 98 = .ok (.goto (-69), 3) := by decide +kernel
theorem dX3_bad_101 : decode cX3_bad 101 = .ok (.iinc 4 1, 3) := by decide +kernel
theorem dX3_bad_104 : decode cX3_bad 104 = .ok (.goto (-84), 3) := by decide +kernel
theorem dX3_bad_107 : decode cX3_bad 107 = .ok (.iload_n 3, 1) := by decide +kernel
theorem dX3_bad_108 : decode cX3_bad 108 = .ok (.ireturn, 1) := by decide +kernel
set_option maxRecDepth 20000 in
theorem ggX3_rankOf_X3_numbers : GoodIn wsX3_rankOf wsX3_numbers := goodIn_r _ [5, 6, 12, 13, 14, 15, 16, 17, 18] (by decide +kernel) (by decide +kernel)
set_option maxRecDepth 20000 in
theorem gX3_rankOf_X3_numbers : GoodIn wsX3_rankOf (wsV RX3 35 RX3 yX3_numbers wsX3_numbers) := goodIn_app (goodIn_of _ (by decide +kernel)) ggX3_rankOf_X3_numbers
set_option maxRecDepth 20000 in
theorem ggX3_rankOf_X3_times : GoodIn wsX3_rankOf wsX3_times := goodIn_r _ [10, 6, 11, 12, 13, 14, 15, 16, 17, 18] (by decide +kernel) (by decide +kernel)
set_option maxRecDepth 20000 in
theorem gX3_rankOf_X3_times : GoodIn wsX3_rankOf (wsV RX3 51 RX3 yX3_times wsX3_times) := goodIn_app (goodIn_of _ (by decide +kernel)) ggX3_rankOf_X3_times
theorem dX3_rankOf_0 : decode cX3_rankOf 0 = .ok (.iconst 0, 1) := by decide +kernel
theorem dX3_rankOf_1 : decode cX3_rankOf 1 = .ok (.istore_n 3, 1) := by decide +kernel
theorem dX3_rankOf_2 : decode cX3_rankOf 2 = .ok (.iconst 0, 1) := by decide +kernel
theorem dX3_rankOf_3 : decode cX3_rankOf 3 = .ok (.istore 4, 2) := by decide +kernel
theorem dX3_rankOf_5 : decode cX3_rankOf 5 = .ok (.iload 4, 2) := by decide +kernel
theorem dX3_rankOf_7 : decode cX3_rankOf 7 = .ok (.aload_n 0, 1) := by decide +kernel
theorem dX3_rankOf_8 : decode cX3_rankOf 8 = .ok (.iload_n 1, 1) := by decide +kernel
theorem dX3_rankOf_9 : decode cX3_rankOf 9 = .ok (.invokevirtual 35, 3) := by decide +kernel
theorem dX3_rankOf_12 : decode cX3_rankOf 12 = .ok (.if_icmp .ge 22, 3) := by decide +kernel
theorem dX3_rankOf_15 : decode cX3_rankOf 15 = .ok (.iload_n 3, 1) := by decide +kernel
theorem dX3_rankOf_16 : decode cX3_rankOf 16 = .ok (.iconst 1, 1) := by decide +kernel
theorem dX3_rankOf_17 : decode cX3_rankOf 17 = .ok (.aload_n 0, 1) := by decide +kernel
theorem dX3_rankOf_18 : decode cX3_rankOf 18 = .ok (.iload_n 1, 1) := by decide +kernel
theorem dX3_rankOf_19 : decode cX3_rankOf 19 = .ok (.iload 4, 2) := by decide +kernel
theorem dX3_rankOf_21 : decode cX3_rankOf 21 = .ok (.iload_n 2, 1) := by decide +kernel
theorem dX3_rankOf_22 : decode cX3_rankOf 22 = .ok (.invokevirtual 51, 3) := by decide +kernel
theorem dX3_rankOf_25 : decode cX3_rankOf 25 = .ok (.ishl, 1) := by decide +kernel
theorem dX3_rankOf_26 : decode cX3_rankOf 26 = .ok (.ior, 1) := by decide +kernel
theorem dX3_rankOf_27 : decode cX3_rankOf 27 = .ok (.istore_n 3, 1) := by decide +kernel
theorem dX3_rankOf_28 : decode cX3_rankOf 28 = .ok (.iinc 4 1, 3) := by decide +kernel
theorem dX3_rankOf_31 : decode cX3_rankOf 31 = .ok (.goto (-26), 3) := by decide +kernel
theorem dX3_rankOf_34 : decode cX3_rankOf 34 = .ok (.iconst 0, 1) := by decide +kernel
theorem dX3_rankOf_35 : decode cX3_rankOf 35 = .ok (.istore 4, 2) := by decide +kernel
theorem dX3_rankOf_37 : decode cX3_rankOf 37 = .ok (.iconst 0, 1) := by decide +kernel
theorem dX3_rankOf_38 : decode cX3_rankOf 38 = .ok (.istore 5, 2) := by decide +kernel
theorem dX3_rankOf_40 : decode cX3_rankOf 40 = .ok (.iload 5, 2) := by decide +kernel
theorem dX3_rankOf_42 : decode cX3_rankOf 42 = .ok (.bipush 16, 2) := by decide +kernel
theorem dX3_rankOf_44 : decode cX3_rankOf 44 = .ok (.if_icmp .ge 20, 3) := by decide +kernel
theorem dX3_rankOf_47 : decode cX3_rankOf 47 = .ok (.iload 4, 2) := by decide +kernel
theorem dX3_rankOf_49 : decode cX3_rankOf 49 = .ok (.iload_n 3, 1) := by decide +kernel
theorem dX3_rankOf_50 : decode cX3_rankOf 50 = .ok (.iload 5, 2) := by decide +kernel
theorem dX3_rankOf_52 : decode cX3_rankOf 52 = .ok (.ishr, 1) := by decide +kernel
theorem dX3_rankOf_53 : decode cX3_rankOf 53 = .ok (.iconst 1, 1) := by decide +kernel
theorem dX3_rankOf_54 : decode cX3_rankOf 54 = .ok (.iand, 1) := by decide +kernel
theorem dX3_rankOf_55 : decode cX3_rankOf 55 = .ok (.iadd, 1) := by decide +kernel
theorem dX3_rankOf_56 : decode cX3_rankOf 56 = .ok (.istore 4, 2) := by decide +kernel
theorem dX3_rankOf_58 : decode cX3_rankOf 58 = .ok (.iinc 5 1, 3) := by decide +kernel
theorem dX3_rankOf_61 : decode cX3_rankOf 61 = .ok (.goto (-21), 3) := by decide +kernel
theorem dX3_rankOf_64 : decode cX3_rankOf 64 = .ok (.iconst 0, 1) := by decide +kernel
theorem dX3_rankOf_65 : decode cX3_rankOf 65 = .ok (.istore 5, 2) := by decide +kernel
theorem dX3_rankOf_67 : decode cX3_rankOf 67 = .ok (.iconst 1, 1) := by decide +kernel
theorem dX3_rankOf_68 : decode cX3_rankOf 68 = .ok (.iload 5, 2) := by decide +kernel
theorem dX3_rankOf_70 : decode cX3_rankOf 70 = .ok (.ishl, 1) := by decide +kernel
theorem dX3_rankOf_71 : decode cX3_rankOf 71 = .ok (.iload 4, 2) := by decide +kernel
theorem dX3_rankOf_73 : decode cX3_rankOf 73 = .ok (.if_icmp .ge 9, 3) := by decide +kernel
theorem dX3_rankOf_76 : decode cX3_rankOf 76 = .ok (.iinc 5 1, 3) := by decide +kernel
theorem dX3_rankOf_79 : decode cX3_rankOf 79 = .ok (.goto (-12), 3) := by decide +kernel
theorem dX3_rankOf_82 : decode cX3_rankOf 82 = .ok (.iload 5, 2) := by decide +kernel
theorem dX3_rankOf_84 : decode cX3_rankOf 84 = .ok (.ireturn, 1) := by decide +kernel
set_option maxRecDepth 20000 in
theorem ggX3_rank_X3_isSlot : GoodIn wsX3_rank wsX3_isSlot := goodIn_r _ [4, 5, 6, 3, 7] (by decide +kernel) (by decide +kernel)
set_option maxRecDepth 20000 in
theorem gX3_rank_X3_isSlot : GoodIn wsX3_rank (va_wsS RX3 39 yX3_isSlot wsX3_isSlot) := goodIn_app (goodIn_of _ (by decide +kernel)) ggX3_rank_X3_isSlot
set_option maxRecDepth 20000 in
theorem ggX3_rank_X3_isNumber : GoodIn wsX3_rank wsX3_isNumber := goodIn_r _ [11, 12, 13, 14, 3, 15, 16, 5, 6, 7, 26, 27, 28, 29, 30, 31, 32] (by decide +kernel) (by decide +kernel)
set_option maxRecDepth 20000 in
theorem gX3_rank_X3_isNumber : GoodIn wsX3_rank (wsV RX3 47 RX3 yX3_isNumber wsX3_isNumber) := goodIn_app (goodIn_of _ (by decide +kernel)) ggX3_rank_X3_isNumber
set_option maxRecDepth 20000 in
theorem ggX3_rank_X3_rankOf : GoodIn wsX3_rank wsX3_rankOf := goodIn_r _ [20, 12, 13, 14, 3, 15, 16, 21, 22, 23, 24, 25, 26, 27, 28, 29, 30, 31, 32] (by decide +kernel) (by decide +kernel)
set_option maxRecDepth 20000 in
theorem gX3_rank_X3_rankOf : GoodIn wsX3_rank (wsV RX3 106 RX3 yX3_rankOf wsX3_rankOf) := goodIn_app (goodIn_of _ (by decide +kernel)) ggX3_rank_X3_rankOf
theorem dX3_rank_0 : decode cX3_rank 0 = .ok (.iload_n 1, 1) := by decide +kernel
theorem dX3_rank_1 : decode cX3_rank 1 = .ok (.invokestatic 39, 3) := by decide +kernel
theorem dX3_rank_4 : decode cX3_rank 4 = .ok (.ifCond .eq 21, 3) := by decide +kernel
theorem dX3_rank_7 : decode cX3_rank 7 = .ok (.aload_n 0, 1) := by decide +kernel
theorem dX3_rank_8 : decode cX3_rank 8 = .ok (.iload_n 1, 1) := by decide +kernel
theorem dX3_rank_9 : decode cX3_rank 9 = .ok (.iload_n 2, 1) := by decide +kernel
theorem dX3_rank_10 : decode cX3_rank 10 = .ok (.invokevirtual 47, 3) := by decide +kernel
theorem dX3_rank_13 : decode cX3_rank 13 = .ok (.ifCond .eq 12, 3) := by decide +kernel
theorem dX3_rank_16 : decode cX3_rank 16 = .ok (.aload_n 0, 1) := by decide +kernel
theorem dX3_rank_17 : decode cX3_rank 17 = .ok (.iload_n 1, 1) := by decide +kernel
theorem dX3_rank_18 : decode cX3_rank 18 = .ok (.iload_n 2, 1) := by decide +kernel
theorem dX3_rank_19 : decode cX3_rank 19 = .ok (.invokevirtual 106, 3) := by decide +kernel
theorem dX3_rank_22 : decode cX3_rank 22 = .ok (.goto 4, 3) := by decide +kernel
theorem dX3_rank_25 : decode cX3_rank 25 = .ok (.iconst (-1), 1) := by decide +kernel
theorem dX3_rank_26 : decode cX3_rank 26 = .ok (.ireturn, 1) := by decide +kernel
set_option maxRecDepth 20000 in
theorem ggX3_ranks_X3_isSlot : GoodIn wsX3_ranks wsX3_isSlot := goodIn_r _ [4, 5, 6, 3, 7] (by decide +kernel) (by decide +kernel)
set_option maxRecDepth 20000 in
theorem gX3_ranks_X3_isSlot : GoodIn wsX3_ranks (va_wsS RX3 39 yX3_isSlot wsX3_isSlot) := goodIn_app (goodIn_of _ (by decide +kernel)) ggX3_ranks_X3_isSlot
set_option maxRecDepth 20000 in
theorem ggX3_ranks_X3_in : GoodIn wsX3_ranks wsX3_in := goodIn_r _ [7] (by decide +kernel) (by decide +kernel)
set_option maxRecDepth 20000 in
theorem gX3_ranks_X3_in : GoodIn wsX3_ranks (va_wsS RX3 31 yX3_in wsX3_in) := goodIn_app (goodIn_of _ (by decide +kernel)) ggX3_ranks_X3_in
set_option maxRecDepth 20000 in
theorem ggX3_ranks_X3_numbers : GoodIn wsX3_ranks wsX3_numbers := goodIn_r _ [11, 12, 22, 23, 24, 25, 26, 27, 28] (by decide +kernel) (by decide +kernel)
set_option maxRecDepth 20000 in
theorem gX3_ranks_X3_numbers : GoodIn wsX3_ranks (wsV RX3 35 RX3 yX3_numbers wsX3_numbers) := goodIn_app (goodIn_of _ (by decide +kernel)) ggX3_ranks_X3_numbers
set_option maxRecDepth 20000 in
theorem ggX3_ranks_X3_rankOf : GoodIn wsX3_ranks wsX3_rankOf := goodIn_r _ [16, 8, 9, 10, 3, 11, 12, 17, 18, 19, 20, 21, 22, 23, 24, 25, 26, 27, 28] (by decide +kernel) (by decide +kernel)
set_option maxRecDepth 20000 in
theorem gX3_ranks_X3_rankOf : GoodIn wsX3_ranks (wsV RX3 106 RX3 yX3_rankOf wsX3_rankOf) := goodIn_app (goodIn_of _ (by decide +kernel)) ggX3_ranks_X3_rankOf
theorem dX3_ranks_0 : decode cX3_ranks 0 = .ok (.iload_n 1, 1) := by decide +kernel
theorem dX3_ranks_1 : decode cX3_ranks 1 = .ok (.invokestatic 39, 3) := by decide +kernel
theorem dX3_ranks_4 : decode cX3_ranks 4 = .ok (.ifCond .ne 5, 3) := by decide +kernel
theorem dX3_ranks_7 : decode cX3_ranks 7 = .ok (.iconst (-1), 1) := by decide +kernel
theorem dX3_ranks_8 : decode cX3_ranks 8 = .ok (.ireturn, 1) := by decide +kernel
theorem dX3_ranks_9 : decode cX3_ranks 9 = .ok (.iload_n 2, 1) := by decide +kernel
theorem dX3_ranks_10 : decode cX3_ranks 10 = .ok (.iconst 0, 1) := by decide +kernel
theorem dX3_ranks_11 : decode cX3_ranks 11 = .ok (.iconst 4, 1) := by decide +kernel
theorem dX3_ranks_12 : decode cX3_ranks 12 = .ok (.invokestatic 31, 3) := by decide +kernel
theorem dX3_ranks_15 : decode cX3_ranks 15 = .ok (.ifCond .ne 6, 3) := by decide +kernel
theorem dX3_ranks_18 : decode cX3_ranks 18 = .ok (.bipush (-2), 2) := by decide +kernel
theorem dX3_ranks_20 : decode cX3_ranks 20 = .ok (.ireturn, 1) := by decide +kernel
theorem dX3_ranks_21 : decode cX3_ranks 21 = .ok (.iconst 0, 1) := by decide +kernel
theorem dX3_ranks_22 : decode cX3_ranks 22 = .ok (.istore_n 3, 1) := by decide +kernel
theorem dX3_ranks_23 : decode cX3_ranks 23 = .ok (.iconst 0, 1) := by decide +kernel
theorem dX3_ranks_24 : decode cX3_ranks 24 = .ok (.istore 4, 2) := by decide +kernel
theorem dX3_ranks_26 : decode cX3_ranks 26 = .ok (.iload 4, 2) := by decide +kernel
theorem dX3_ranks_28 : decode cX3_ranks 28 = .ok (.aload_n 0, 1) := by decide +kernel
theorem dX3_ranks_29 : decode cX3_ranks 29 = .ok (.iload_n 1, 1) := by decide +kernel
theorem dX3_ranks_30 : decode cX3_ranks 30 = .ok (.invokevirtual 35, 3) := by decide +kernel
theorem dX3_ranks_33 : decode cX3_ranks 33 = .ok (.if_icmp .ge 28, 3) := by decide +kernel
theorem dX3_ranks_36 : decode cX3_ranks 36 = .ok (.iload_n 3, 1) := by decide +kernel
theorem dX3_ranks_37 : decode cX3_ranks 37 = .ok (.aload_n 0, 1) := by decide +kernel
theorem dX3_ranks_38 : decode cX3_ranks 38 = .ok (.iload_n 1, 1) := by decide +kernel
theorem dX3_ranks_39 : decode cX3_ranks 39 = .ok (.iload 4, 2) := by decide +kernel
theorem dX3_ranks_41 : decode cX3_ranks 41 = .ok (.invokevirtual 106, 3) := by decide +kernel
theorem dX3_ranks_44 : decode cX3_ranks 44 = .ok (.iload_n 2, 1) := by decide +kernel
theorem dX3_ranks_45 : decode cX3_ranks 45 = .ok (.if_icmp .ne 7, 3) := by decide +kernel
theorem dX3_ranks_48 : decode cX3_ranks 48 = .ok (.iconst 1, 1) := by decide +kernel
theorem dX3_ranks_49 : decode cX3_ranks 49 = .ok (.goto 4, 3) := by decide +kernel
theorem dX3_ranks_52 : decode cX3_ranks 52 = .ok (.iconst 0, 1) := by decide +kernel
theorem dX3_ranks_53 : decode cX3_ranks 53 = .ok (.iadd, 1) := by decide +kernel
theorem dX3_ranks_54 : decode cX3_ranks 54 = .ok (.istore_n 3, 1) := by decide +kernel
theorem dX3_ranks_55 : decode cX3_ranks 55 = .ok (.iinc 4 1, 3) := by decide +kernel
theorem dX3_ranks_58 : decode cX3_ranks 58 = .ok (.goto (-32), 3) := by decide +kernel
theorem dX3_ranks_61 : decode cX3_ranks 61 = .ok (.iload_n 3, 1) := by decide +kernel
theorem dX3_ranks_62 : decode cX3_ranks 62 = .ok (.ireturn, 1) := by decide +kernel
set_option maxRecDepth 20000 in
theorem ggX3_cubes_X3_in : GoodIn wsX3_cubes wsX3_in := goodIn_r _ [5] (by decide +kernel) (by decide +kernel)
set_option maxRecDepth 20000 in
theorem gX3_cubes_X3_in : GoodIn wsX3_cubes (va_wsS RX3 31 yX3_in wsX3_in) := goodIn_app (goodIn_of _ (by decide +kernel)) ggX3_cubes_X3_in
set_option maxRecDepth 20000 in
theorem ggX3_cubes_X3_clear : GoodIn wsX3_cubes wsX3_clear := goodIn_r _ [9, 10, 1, 23, 24, 25, 26, 27, 28, 29] (by decide +kernel) (by decide +kernel)
set_option maxRecDepth 20000 in
theorem gX3_cubes_X3_clear : GoodIn wsX3_cubes (wsV RX3 43 RX3 yX3_clear wsX3_clear) := goodIn_app (goodIn_of _ (by decide +kernel)) ggX3_cubes_X3_clear
set_option maxRecDepth 20000 in
theorem ggX3_cubes_X3_firstBroken : GoodIn wsX3_cubes wsX3_firstBroken := goodIn_r _ [14, 15, 16, 17, 4, 18, 10, 19, 20, 21, 22, 1, 23, 24, 25, 26, 27, 28, 29] (by decide +kernel) (by decide +kernel)
set_option maxRecDepth 20000 in
theorem gX3_cubes_X3_firstBroken : GoodIn wsX3_cubes (wsV RX3 55 RX3 yX3_firstBroken wsX3_firstBroken) := goodIn_app (goodIn_of _ (by decide +kernel)) ggX3_cubes_X3_firstBroken
theorem dX3_cubes_0 : decode cX3_cubes 0 = .ok (.iload_n 1, 1) := by decide +kernel
theorem dX3_cubes_1 : decode cX3_cubes 1 = .ok (.iconst 1, 1) := by decide +kernel
theorem dX3_cubes_2 : decode cX3_cubes 2 = .ok (.iconst 2, 1) := by decide +kernel
theorem dX3_cubes_3 : decode cX3_cubes 3 = .ok (.invokestatic 31, 3) := by decide +kernel
theorem dX3_cubes_6 : decode cX3_cubes 6 = .ok (.ifCond .ne 6, 3) := by decide +kernel
theorem dX3_cubes_9 : decode cX3_cubes 9 = .ok (.bipush (-2), 2) := by decide +kernel
theorem dX3_cubes_11 : decode cX3_cubes 11 = .ok (.ireturn, 1) := by decide +kernel
theorem dX3_cubes_12 : decode cX3_cubes 12 = .ok (.aload_n 0, 1) := by decide +kernel
theorem dX3_cubes_13 : decode cX3_cubes 13 = .ok (.iconst 4, 1) := by decide +kernel
theorem dX3_cubes_14 : decode cX3_cubes 14 = .ok (.iload_n 1, 1) := by decide +kernel
theorem dX3_cubes_15 : decode cX3_cubes 15 = .ok (.invokevirtual 43, 3) := by decide +kernel
theorem dX3_cubes_18 : decode cX3_cubes 18 = .ok (.iconst 0, 1) := by decide +kernel
theorem dX3_cubes_19 : decode cX3_cubes 19 = .ok (.istore_n 2, 1) := by decide +kernel
theorem dX3_cubes_20 : decode cX3_cubes 20 = .ok (.iconst 0, 1) := by decide +kernel
theorem dX3_cubes_21 : decode cX3_cubes 21 = .ok (.istore_n 3, 1) := by decide +kernel
theorem dX3_cubes_22 : decode cX3_cubes 22 = .ok (.iload_n 3, 1) := by decide +kernel
theorem dX3_cubes_23 : decode cX3_cubes 23 = .ok (.iconst 1, 1) := by decide +kernel
theorem dX3_cubes_24 : decode cX3_cubes 24 = .ok (.iload_n 1, 1) := by decide +kernel
theorem dX3_cubes_25 : decode cX3_cubes 25 = .ok (.iload_n 1, 1) := by decide +kernel
theorem dX3_cubes_26 : decode cX3_cubes 26 = .ok (.imul, 1) := by decide +kernel
theorem dX3_cubes_27 : decode cX3_cubes 27 = .ok (.iload_n 1, 1) := by decide +kernel
theorem dX3_cubes_28 : decode cX3_cubes 28 = .ok (.imul, 1) := by decide +kernel
theorem dX3_cubes_29 : decode cX3_cubes 29 = .ok (.ishl, 1) := by decide +kernel
theorem dX3_cubes_30 : decode cX3_cubes 30 = .ok (.if_icmp .ge 75, 3) := by decide +kernel
theorem dX3_cubes_33 : decode cX3_cubes 33 = .ok (.iconst 0, 1) := by decide +kernel
theorem dX3_cubes_34 : decode cX3_cubes 34 = .ok (.istore 4, 2) := by decide +kernel
theorem dX3_cubes_36 : decode cX3_cubes 36 = .ok (.iload 4, 2) := by decide +kernel
theorem dX3_cubes_38 : decode cX3_cubes 38 = .ok (.iload_n 1, 1) := by decide +kernel
theorem dX3_cubes_39 : decode cX3_cubes 39 = .ok (.iload_n 1, 1) := by decide +kernel
theorem dX3_cubes_40 : decode cX3_cubes 40 = .ok (.imul, 1) := by decide +kernel
theorem dX3_cubes_41 : decode cX3_cubes 41 = .ok (.if_icmp .ge 40, 3) := by decide +kernel
theorem dX3_cubes_44 : decode cX3_cubes 44 = .ok (.aload_n 0, 1) := by decide +kernel
theorem dX3_cubes_45 : decode cX3_cubes 45 = .ok (.getfield 13, 3) := by decide +kernel
theorem dX3_cubes_48 : decode cX3_cubes 48 = .ok (.bipush 64, 2) := by decide +kernel
theorem dX3_cubes_50 : decode cX3_cubes 50 = .ok (.iconst 4, 1) := by decide +kernel
theorem dX3_cubes_51 : decode cX3_cubes 51 = .ok (.iload 4, 2) := by decide +kernel
theorem dX3_cubes_53 : decode cX3_cubes 53 = .ok (.iload_n 1, 1) := by decide +kernel
theorem dX3_cubes_54 : decode cX3_cubes 54 = .ok (.idiv, 1) := by decide +kernel
theorem dX3_cubes_55 : decode cX3_cubes 55 = .ok (.imul, 1) := by decide +kernel
theorem dX3_cubes_56 : decode cX3_cubes 56 = .ok (.iadd, 1) := by decide +kernel
theorem dX3_cubes_57 : decode cX3_cubes 57 = .ok (.iload 4, 2) := by decide +kernel
theorem dX3_cubes_59 : decode cX3_cubes 59 = .ok (.iload_n 1, 1) := by decide +kernel
theorem dX3_cubes_60 : decode cX3_cubes 60 = .ok (.irem, 1) := by decide +kernel
theorem dX3_cubes_61 : decode cX3_cubes 61 = .ok (.iadd, 1) := by decide +kernel
theorem dX3_cubes_62 : decode cX3_cubes 62 = .ok (.iload_n 3, 1) := by decide +kernel
theorem dX3_cubes_63 : decode cX3_cubes 63 = .ok (.iload_n 1, 1) := by decide +kernel
theorem dX3_cubes_64 : decode cX3_cubes 64 = .ok (.iload 4, 2) := by decide +kernel
theorem dX3_cubes_66 : decode cX3_cubes 66 = .ok (.imul, 1) := by decide +kernel
theorem dX3_cubes_67 : decode cX3_cubes 67 = .ok (.ishr, 1) := by decide +kernel
theorem dX3_cubes_68 : decode cX3_cubes 68 = .ok (.iconst 1, 1) := by decide +kernel
theorem dX3_cubes_69 : decode cX3_cubes 69 = .ok (.iload_n 1, 1) := by decide +kernel
theorem dX3_cubes_70 : decode cX3_cubes 70 = .ok (.ishl, 1) := by decide +kernel
theorem dX3_cubes_71 : decode cX3_cubes 71 = .ok (.iconst 1, 1) := by decide +kernel
theorem dX3_cubes_72 : decode cX3_cubes 72 = .ok (.isub, 1) := by decide +kernel
theorem dX3_cubes_73 : decode cX3_cubes 73 = .ok (.iand, 1) := by decide +kernel
theorem dX3_cubes_74 : decode cX3_cubes 74 = .ok (.iastore, 1) := by decide +kernel
theorem dX3_cubes_75 : decode cX3_cubes 75 = .ok (.iinc 4 1, 3) := by decide +kernel
theorem dX3_cubes_78 : decode cX3_cubes 78 = .ok (.goto (-42), 3) := by decide +kernel
theorem dX3_cubes_81 : decode cX3_cubes 81 = .ok (.iload_n 2, 1) := by decide +kernel
theorem dX3_cubes_82 : decode cX3_cubes 82 = .ok (.aload_n 0, 1) := by decide +kernel
theorem dX3_cubes_83 : decode cX3_cubes 83 = .ok (.iconst 4, 1) := by decide +kernel
theorem dX3_cubes_84 : decode cX3_cubes 84 = .ok (.invokevirtual 55, 3) := by decide +kernel
theorem dX3_cubes_87 : decode cX3_cubes 87 = .ok (.bipush (-9), 2) := by decide +kernel
theorem dX3_cubes_89 : decode cX3_cubes 89 = .ok (.if_icmp .ne 7, 3) := by decide +kernel
theorem dX3_cubes_92 : decode cX3_cubes 92 = .ok (.iconst 1, 1) := by decide +kernel
theorem dX3_cubes_93 : decode cX3_cubes 93 = .ok (.goto 4, 3) := by decide +kernel
theorem dX3_cubes_96 : decode cX3_cubes 96 = .ok (.iconst 0, 1) := by decide +kernel
theorem dX3_cubes_97 : decode cX3_cubes 97 = .ok (.iadd, 1) := by decide +kernel
theorem dX3_cubes_98 : decode cX3_cubes 98 = .ok (.istore_n 2, 1) := by decide +kernel
theorem dX3_cubes_99 : decode cX3_cubes 99 = .ok (.iinc 3 1, 3) := by decide +kernel
theorem dX3_cubes_102 : decode cX3_cubes 102 = .ok (.goto (-80), 3) := by decide +kernel
theorem dX3_cubes_105 : decode cX3_cubes 105 = .ok (.iload_n 2, 1) := by decide +kernel
theorem dX3_cubes_106 : decode cX3_cubes 106 = .ok (.ireturn, 1) := by decide +kernel
end
section
abbrev vwCl : List vw_C := [(RX1, TX1, 4), (RX2, TX2, 7), (RX3, TX3, 7)]
/-! numbers: every int of this system but the answers below zero is 'nI' of a number -/
def bI (b : Bool) : Int32 := if b then 1 else 0
def oI (o : Option Nat) : Int32 := match o with
  | some k => nI k
  | none => -9
def nF (f : Nat → Nat) : Nat → Int32 := fun j => nI (f j)
theorem k_sh31 : ∀ k, k < 32 → ((nI k &&& 31).toBitVec.smod 32).toNat = k := by decide +kernel
theorem k_ush31 : ∀ k, k < 32 → (((nI k).toUInt32 &&& Int32.toUInt32 31).toBitVec % 32).toNat = k := by decide +kernel
theorem k_bv (a : Nat) : (nI a).toBitVec = BitVec.ofNat 32 a := rfl
theorem k_bext {x y : Int32} (h : x.toBitVec = y.toBitVec) : x = y := Int32.toBitVec_inj.mp h
theorem k_and (a b : Nat) : nI a &&& nI b = nI (a &&& b) := k_bext (by rw [Int32.toBitVec_and, k_bv, k_bv, k_bv]; apply BitVec.eq_of_toNat_eq; simp [BitVec.toNat_and, BitVec.toNat_ofNat, Nat.and_mod_two_pow])
theorem k_or (a b : Nat) : nI a ||| nI b = nI (a ||| b) := k_bext (by rw [Int32.toBitVec_or, k_bv, k_bv, k_bv]; apply BitVec.eq_of_toNat_eq; simp [BitVec.toNat_or, BitVec.toNat_ofNat, Nat.or_mod_two_pow])
theorem k_xor (a b : Nat) : nI a ^^^ nI b = nI (a ^^^ b) := k_bext (by rw [Int32.toBitVec_xor, k_bv, k_bv, k_bv]; apply BitVec.eq_of_toNat_eq; simp [BitVec.toNat_xor, BitVec.toNat_ofNat, Nat.xor_mod_two_pow])
theorem k_shl (a : Nat) {k : Nat} (hk : k < 32) : nI a <<< (nI k &&& 31) = nI (a <<< k) := by
  apply k_bext
  apply BitVec.eq_of_toNat_eq
  rw [pk_shl (nI a) _ k (k_sh31 k hk), k_bv, k_bv, BitVec.toNat_ofNat, BitVec.toNat_ofNat, Nat.shiftLeft_eq, Nat.mod_mul_mod]
theorem k_shr {a k : Nat} (ha : a < 2 ^ 31) (hk : k < 32) : nI a >>> (nI k &&& 31) = nI (a >>> k) := by
  rw [pk_shrN ha _ k (k_sh31 k hk), Nat.shiftRight_eq_div_pow]
theorem k_ushr {a k : Nat} (ha : a < 2 ^ 32) (hk : k < 32) : ((nI a).toUInt32 >>> ((nI k).toUInt32 &&& Int32.toUInt32 31)).toInt32 = nI (a >>> k) := by
  rw [pk_ushrN ha _ k (k_ush31 k hk), Nat.shiftRight_eq_div_pow]
theorem k_toNat {a : Nat} (h : a < 2 ^ 31) : (nI a).toNatClampNeg = a := nI_clamp h
theorem k_ofInt (k : Nat) : Int32.ofInt (k : Int) = nI k := by
  apply k_bext
  show BitVec.ofInt 32 (k : Int) = BitVec.ofNat 32 k
  exact BitVec.ofInt_natCast 32 k
theorem k_lit (k : Nat) : (OfNat.ofNat k : Int32) = nI k := rfl
theorem k_oI9 {o : Option Nat} (h : ∀ k, o = some k → k < 2 ^ 31) : oI o = -9 ↔ o = none := by
  cases o with
  | none => simp [oI]
  | some k =>
    simp only [oI, reduceCtorEq, iff_false]
    intro e
    have := congrArg Int32.toInt e
    rw [nI_toInt (h k rfl)] at this
    have h9 : ((-9 : Int32)).toInt = -9 := by decide
    omega
/-! pictures: n cells at the addresses 'ad' that hold E -/
def pic (n : Nat) (ad : Nat → Nat) (E : Nat → va_E) : va_W := (List.range n).map fun i => (ad i, E i)
theorem pic_get {n i : Nat} {ad : Nat → Nat} {E : Nat → va_E} {e : va_E} (h : i < n) (he : E i = e) : (pic n ad E)[i]? = some (ad i, e) := by
  unfold pic
  rw [List.getElem?_map, List.getElem?_range h, ← he]
  rfl
theorem pic_inv {n k : Nat} {ad : Nat → Nat} {E : Nat → va_E} {q : Nat × va_E} (h : (pic n ad E)[k]? = some q) : k < n ∧ q = (ad k, E k) := by
  have hk : k < n := by
    have := (List.getElem?_eq_some_iff.mp h).1
    simpa [pic] using this
  rw [pic_get hk rfl] at h
  exact ⟨hk, (Option.some.inj h).symm⟩
theorem pic_ext {n : Nat} {ad : Nat → Nat} {E E' : Nat → va_E} (h : ∀ i, i < n → E i = E' i) : pic n ad E = pic n ad E' := by
  unfold pic
  apply List.map_congr_left
  intro i hi
  rw [h i (List.mem_range.mp hi)]
theorem pic_set {n i : Nat} {ad : Nat → Nat} {E : Nat → va_E} (e : va_E) (h : i < n) : (pic n ad E).set i (ad i, e) = pic n ad (va_up E i e) := by
  apply List.ext_getElem?
  intro k
  by_cases hk : k = i
  · subst hk
    rw [List.getElem?_set_self (by simpa [pic] using h), pic_get h (by unfold va_up; rw [if_pos rfl])]
  · rw [List.getElem?_set_ne (Ne.symm hk)]
    by_cases hn : k < n
    · rw [pic_get hn rfl, pic_get hn (va_up_ne _ _ hk)]
    · rw [List.getElem?_eq_none (by simpa [pic] using hn), List.getElem?_eq_none (by simpa [pic] using hn)]
theorem pic_D {A : Nat → Prop} {n : Nat} {ad : Nat → Nat} {E : Nat → va_E} (E' : Nat → va_E) (h : va_D A (pic n ad E)) : va_D A (pic n ad E') := by
  refine ⟨fun i j x y hi hj hxy => ?_, fun k q hk => ?_⟩
  · obtain ⟨h1, rfl⟩ := pic_inv hi
    obtain ⟨h2, rfl⟩ := pic_inv hj
    exact h.1 i j _ _ (pic_get h1 rfl) (pic_get h2 rfl) hxy
  · obtain ⟨h1, rfl⟩ := pic_inv hk
    exact h.2 k (ad k, E k) (pic_get h1 rfl)
/-! what a method that reads alone takes and leaves; what one that writes does -/
/-- the one call of a private method of another class of the nest: World's of cellIndex -/
def nestW : Cond := .methodLinkNest RX1 29 yX2_cellIndex "CubeWorlds"
def KN (D : va_G) (tys : List (ClassId × FieldType)) (U : State) : Prop := va_K D vwCl tys U ∧ va_Nw nestW U
theorem KN.moved {D : va_G} {tys : List (ClassId × FieldType)} {s U : State} (hW : s.WarmedH U.vm) (h : KN D tys s) : KN D tys U := ⟨va_K.moved hW.alike h.1, va_Nw.warmM hW h.2⟩
theorem KN.call {D : va_G} {tys : List (ClassId × FieldType)} {U : State} (g : JFrame) (mk : MethodId) (a : Array Value) (h : KN D tys U) : KN D tys (U.calling g mk a) := ⟨va_K.moved (u := U) (U := U.calling g mk a) (Vm.Alike.refl U.vm) h.1, va_Nw.same rfl rfl h.2⟩
def PB (D : va_G) (tys : List (ClassId × FieldType)) (n : Nat) (ad : Nat → Nat) (E : Nat → va_E) : State → Prop := fun U => va_P D vwCl (pic n ad E) U.heap ∧ KN D tys U
def PW (D : va_G) (tys : List (ClassId × FieldType)) (A : Nat → Prop) (n : Nat) (ad : Nat → Nat) (E : Nat → va_E) : State → Prop := fun U => va_P D vwCl (pic n ad E) U.heap ∧ KN D tys U ∧ va_D A (pic n ad E)
def QW (v : Option Value) (B : State → Prop) (A : Nat → Prop) : Array Value → State → Outcome → State → Prop := fun _ st o t => o = .returned v ∧ B t ∧ va_F A st t
theorem PB_blind {D : va_G} {tys : List (ClassId × FieldType)} {n : Nat} {ad : Nat → Nat} {E : Nat → va_E} {As : List Value} : FrameBlind (va_Pc As (PB D tys n ad E)) := by
  intro a U g mk q
  obtain ⟨q0, qP, qK⟩ := q
  exact ⟨q0, qP, qK.call g mk a⟩
theorem PW_blind {D : va_G} {tys : List (ClassId × FieldType)} {A : Nat → Prop} {n : Nat} {ad : Nat → Nat} {E : Nat → va_E} {As : List Value} : FrameBlind (va_Pc As (PW D tys A n ad E)) := by
  intro a U g mk q
  obtain ⟨q0, qP, qK, qD⟩ := q
  exact ⟨q0, qP, qK.call g mk a, qD⟩
/-- the class of the array of that type is one -/
theorem K_one {D : va_G} {cl : List vw_C} {tys : List (ClassId × FieldType)} {U : State} {i j : Nat} {c1 c2 : ClassId} {ty : FieldType} (h : va_K D cl tys U) (h1 : tys[i]? = some (c1, ty)) (h2 : tys[j]? = some (c2, ty)) : c1 = c2 := by
  have g1 := (h.2 i _ h1).2
  have g2 := (h.2 j _ h2).2
  cases ty with
  | object C =>
    obtain ⟨_, _, _, _, _, e1⟩ := g1
    obtain ⟨_, _, _, _, _, e2⟩ := g2
    exact Option.some.inj (e1.symm.trans e2)
  | _ => exact Option.some.inj (Eq.trans (Eq.symm g1) g2)
section RWA
variable {p : Program} {l : Launch} {e : Env} {R : Room} {s : State} {m : MethodId} {args : Array Value} {below : List Frame} {meth : Method} {c : Code} {H : Heap} {locs : List Loc} {cells slots : Nat} {Q : State → Prop}
variable {cc : ByteArray} {pc : Nat} {ls : Array Slot} {rest : List Value}
theorem n_eq {x y : Int32} (h : x = y) (k : W p l e R s m args below meth c H locs cells slots Q (F0 m pc ls (.int y :: rest))) : W p l e R s m args below meth c H locs cells slots Q (F0 m pc ls (.int x :: rest)) := by rw [h]; exact k
theorem n_iconst (k : Nat) (hx : p.tables.exec = Jvm.exec) (hb : c.code = cc) (hdg : decode cc pc = .ok (.iconst (k : Int), 1)) (kk : W p l e R s m args below meth c H locs cells slots Q (F0 m (pc + 1) ls (.int (nI k) :: rest))) : W p l e R s m args below meth c H locs cells slots Q (F0 m pc ls rest) := lv_iconst hx hb hdg (k_ofInt k) kk
theorem n_iadd {a b : Nat} (hx : p.tables.exec = Jvm.exec) (hb : c.code = cc) (hdg : decode cc pc = .ok (.iadd, 1)) (kk : W p l e R s m args below meth c H locs cells slots Q (F0 m (pc + 1) ls (.int (nI (a + b)) :: rest))) : W p l e R s m args below meth c H locs cells slots Q (F0 m pc ls (.int (nI b) :: .int (nI a) :: rest)) := lv_iadd hx hb hdg (n_eq (nI_add a b) kk)
theorem n_isub {a b : Nat} (hx : p.tables.exec = Jvm.exec) (hb : c.code = cc) (hdg : decode cc pc = .ok (.isub, 1)) (h : b ≤ a) (kk : W p l e R s m args below meth c H locs cells slots Q (F0 m (pc + 1) ls (.int (nI (a - b)) :: rest))) : W p l e R s m args below meth c H locs cells slots Q (F0 m pc ls (.int (nI b) :: .int (nI a) :: rest)) := lv_isub hx hb hdg (n_eq (pk_sub h) kk)
theorem n_imul {a b : Nat} (hx : p.tables.exec = Jvm.exec) (hb : c.code = cc) (hdg : decode cc pc = .ok (.imul, 1)) (kk : W p l e R s m args below meth c H locs cells slots Q (F0 m (pc + 1) ls (.int (nI (a * b)) :: rest))) : W p l e R s m args below meth c H locs cells slots Q (F0 m pc ls (.int (nI b) :: .int (nI a) :: rest)) := lv_imul hx hb hdg (n_eq (pk_mul a b) kk)
theorem n_iand {a b : Nat} (hx : p.tables.exec = Jvm.exec) (hb : c.code = cc) (hdg : decode cc pc = .ok (.iand, 1)) (kk : W p l e R s m args below meth c H locs cells slots Q (F0 m (pc + 1) ls (.int (nI (a &&& b)) :: rest))) : W p l e R s m args below meth c H locs cells slots Q (F0 m pc ls (.int (nI b) :: .int (nI a) :: rest)) := lv_iand hx hb hdg (n_eq (k_and a b) kk)
theorem n_ior {a b : Nat} (hx : p.tables.exec = Jvm.exec) (hb : c.code = cc) (hdg : decode cc pc = .ok (.ior, 1)) (kk : W p l e R s m args below meth c H locs cells slots Q (F0 m (pc + 1) ls (.int (nI (a ||| b)) :: rest))) : W p l e R s m args below meth c H locs cells slots Q (F0 m pc ls (.int (nI b) :: .int (nI a) :: rest)) := lv_ior hx hb hdg (n_eq (k_or a b) kk)
theorem n_ixor {a b : Nat} (hx : p.tables.exec = Jvm.exec) (hb : c.code = cc) (hdg : decode cc pc = .ok (.ixor, 1)) (kk : W p l e R s m args below meth c H locs cells slots Q (F0 m (pc + 1) ls (.int (nI (a ^^^ b)) :: rest))) : W p l e R s m args below meth c H locs cells slots Q (F0 m pc ls (.int (nI b) :: .int (nI a) :: rest)) := lv_ixor hx hb hdg (n_eq (k_xor a b) kk)
theorem n_ishl {a k : Nat} (hx : p.tables.exec = Jvm.exec) (hb : c.code = cc) (hdg : decode cc pc = .ok (.ishl, 1)) (hk : k < 32) (kk : W p l e R s m args below meth c H locs cells slots Q (F0 m (pc + 1) ls (.int (nI (a <<< k)) :: rest))) : W p l e R s m args below meth c H locs cells slots Q (F0 m pc ls (.int (nI k) :: .int (nI a) :: rest)) := lv_ishl hx hb hdg (n_eq (k_shl a hk) kk)
theorem n_ishr {a k : Nat} (hx : p.tables.exec = Jvm.exec) (hb : c.code = cc) (hdg : decode cc pc = .ok (.ishr, 1)) (ha : a < 2 ^ 31) (hk : k < 32) (kk : W p l e R s m args below meth c H locs cells slots Q (F0 m (pc + 1) ls (.int (nI (a >>> k)) :: rest))) : W p l e R s m args below meth c H locs cells slots Q (F0 m pc ls (.int (nI k) :: .int (nI a) :: rest)) := lv_ishr hx hb hdg (n_eq (k_shr ha hk) kk)
theorem n_iushr {a k : Nat} (hx : p.tables.exec = Jvm.exec) (hb : c.code = cc) (hdg : decode cc pc = .ok (.iushr, 1)) (ha : a < 2 ^ 32) (hk : k < 32) (kk : W p l e R s m args below meth c H locs cells slots Q (F0 m (pc + 1) ls (.int (nI (a >>> k)) :: rest))) : W p l e R s m args below meth c H locs cells slots Q (F0 m pc ls (.int (nI k) :: .int (nI a) :: rest)) := lv_iushr hx hb hdg (k_ushr ha hk) kk
theorem n_idiv {a b : Nat} (hx : p.tables.exec = Jvm.exec) (hb : c.code = cc) (hdg : decode cc pc = .ok (.idiv, 1)) (ha : a < 2 ^ 31) (h0 : 0 < b) (hb2 : b < 2 ^ 31) (kk : W p l e R s m args below meth c H locs cells slots Q (F0 m (pc + 1) ls (.int (nI (a / b)) :: rest))) : W p l e R s m args below meth c H locs cells slots Q (F0 m pc ls (.int (nI b) :: .int (nI a) :: rest)) := lv_idiv hx hb hdg (nI_ne0 h0 hb2) (n_eq (pk_div ha h0 hb2) kk)
theorem n_irem {a b : Nat} (hx : p.tables.exec = Jvm.exec) (hb : c.code = cc) (hdg : decode cc pc = .ok (.irem, 1)) (ha : a < 2 ^ 31) (h0 : 0 < b) (hb2 : b < 2 ^ 31) (kk : W p l e R s m args below meth c H locs cells slots Q (F0 m (pc + 1) ls (.int (nI (a % b)) :: rest))) : W p l e R s m args below meth c H locs cells slots Q (F0 m pc ls (.int (nI b) :: .int (nI a) :: rest)) := lv_irem hx hb hdg (nI_ne0 h0 hb2) (n_eq (pk_rem ha h0 hb2) kk)
/-- two numbers of small size -/
theorem n_lt {a b : Nat} {off : Int} {tgt : Nat} (hx : p.tables.exec = Jvm.exec) (hb : c.code = cc) (hdg : decode cc pc = .ok (.if_icmp .lt off, 3)) (ht : (pc : Int) + off = (tgt : Int)) (ha : a < 2 ^ 31) (hb2 : b < 2 ^ 31)
    (kt : a < b → W p l e R s m args below meth c H locs cells slots Q (F0 m tgt ls rest)) (kf : b ≤ a → W p l e R s m args below meth c H locs cells slots Q (F0 m (pc + 3) ls rest)) : W p l e R s m args below meth c H locs cells slots Q (F0 m pc ls (.int (nI b) :: .int (nI a) :: rest)) := lv_icmp_lt hx hb hdg ht (fun h => kt ((nI_ltI ha hb2).mp h)) (fun h => kf (by rw [nI_ltI ha hb2] at h; omega))
theorem n_ge {a b : Nat} {off : Int} {tgt : Nat} (hx : p.tables.exec = Jvm.exec) (hb : c.code = cc) (hdg : decode cc pc = .ok (.if_icmp .ge off, 3)) (ht : (pc : Int) + off = (tgt : Int)) (ha : a < 2 ^ 31) (hb2 : b < 2 ^ 31)
    (kt : b ≤ a → W p l e R s m args below meth c H locs cells slots Q (F0 m tgt ls rest)) (kf : a < b → W p l e R s m args below meth c H locs cells slots Q (F0 m (pc + 3) ls rest)) : W p l e R s m args below meth c H locs cells slots Q (F0 m pc ls (.int (nI b) :: .int (nI a) :: rest)) := lv_icmp_ge hx hb hdg ht (fun h => kt ((nI_leI hb2 ha).mp h)) (fun h => kf (by rw [nI_leI hb2 ha] at h; omega))
theorem n_gt {a b : Nat} {off : Int} {tgt : Nat} (hx : p.tables.exec = Jvm.exec) (hb : c.code = cc) (hdg : decode cc pc = .ok (.if_icmp .gt off, 3)) (ht : (pc : Int) + off = (tgt : Int)) (ha : a < 2 ^ 31) (hb2 : b < 2 ^ 31)
    (kt : b < a → W p l e R s m args below meth c H locs cells slots Q (F0 m tgt ls rest)) (kf : a ≤ b → W p l e R s m args below meth c H locs cells slots Q (F0 m (pc + 3) ls rest)) : W p l e R s m args below meth c H locs cells slots Q (F0 m pc ls (.int (nI b) :: .int (nI a) :: rest)) := lv_icmp_gt hx hb hdg ht (fun h => kt ((nI_ltI hb2 ha).mp h)) (fun h => kf (by have h2 := h; rw [nI_ltI hb2 ha] at h2; omega))
theorem n_le {a b : Nat} {off : Int} {tgt : Nat} (hx : p.tables.exec = Jvm.exec) (hb : c.code = cc) (hdg : decode cc pc = .ok (.if_icmp .le off, 3)) (ht : (pc : Int) + off = (tgt : Int)) (ha : a < 2 ^ 31) (hb2 : b < 2 ^ 31)
    (kt : a ≤ b → W p l e R s m args below meth c H locs cells slots Q (F0 m tgt ls rest)) (kf : b < a → W p l e R s m args below meth c H locs cells slots Q (F0 m (pc + 3) ls rest)) : W p l e R s m args below meth c H locs cells slots Q (F0 m pc ls (.int (nI b) :: .int (nI a) :: rest)) := lv_icmp_le hx hb hdg ht (fun h => kt ((nI_leI ha hb2).mp h)) (fun h => kf (by rw [nI_leI ha hb2] at h; omega))
theorem n_ceq {a b : Nat} {off : Int} {tgt : Nat} (hx : p.tables.exec = Jvm.exec) (hb : c.code = cc) (hdg : decode cc pc = .ok (.if_icmp .eq off, 3)) (ht : (pc : Int) + off = (tgt : Int)) (ha : a < 2 ^ 31) (hb2 : b < 2 ^ 31)
    (kt : a = b → W p l e R s m args below meth c H locs cells slots Q (F0 m tgt ls rest)) (kf : ¬ a = b → W p l e R s m args below meth c H locs cells slots Q (F0 m (pc + 3) ls rest)) : W p l e R s m args below meth c H locs cells slots Q (F0 m pc ls (.int (nI b) :: .int (nI a) :: rest)) := lv_icmp_eq hx hb hdg ht (fun h => kt ((nI_eq ha hb2).mp h)) (fun h => kf (fun z => h (by rw [z])))
theorem n_cne {a b : Nat} {off : Int} {tgt : Nat} (hx : p.tables.exec = Jvm.exec) (hb : c.code = cc) (hdg : decode cc pc = .ok (.if_icmp .ne off, 3)) (ht : (pc : Int) + off = (tgt : Int)) (ha : a < 2 ^ 31) (hb2 : b < 2 ^ 31)
    (kt : ¬ a = b → W p l e R s m args below meth c H locs cells slots Q (F0 m tgt ls rest)) (kf : a = b → W p l e R s m args below meth c H locs cells slots Q (F0 m (pc + 3) ls rest)) : W p l e R s m args below meth c H locs cells slots Q (F0 m pc ls (.int (nI b) :: .int (nI a) :: rest)) := by
  exact lv_icmp_ne hx hb hdg ht (fun h => kt (fun z => h (by rw [z]))) (fun h => kf ((nI_eq ha hb2).mp h))
/-- a truth value -/
theorem n_ifeq_b {b : Bool} {off : Int} {tgt : Nat} (hx : p.tables.exec = Jvm.exec) (hb : c.code = cc) (hdg : decode cc pc = .ok (.ifCond .eq off, 3)) (ht : (pc : Int) + off = (tgt : Int))
    (kt : b = false → W p l e R s m args below meth c H locs cells slots Q (F0 m tgt ls rest)) (kf : b = true → W p l e R s m args below meth c H locs cells slots Q (F0 m (pc + 3) ls rest)) : W p l e R s m args below meth c H locs cells slots Q (F0 m pc ls (.int (bI b) :: rest)) := by
  cases b with
  | false => exact lv_if_eq hx hb hdg ht (fun _ => kt rfl) (fun h => absurd rfl h)
  | true => exact lv_if_eq hx hb hdg ht (fun h => absurd h (by decide)) (fun _ => kf rfl)
theorem n_ifne_b {b : Bool} {off : Int} {tgt : Nat} (hx : p.tables.exec = Jvm.exec) (hb : c.code = cc) (hdg : decode cc pc = .ok (.ifCond .ne off, 3)) (ht : (pc : Int) + off = (tgt : Int))
    (kt : b = true → W p l e R s m args below meth c H locs cells slots Q (F0 m tgt ls rest)) (kf : b = false → W p l e R s m args below meth c H locs cells slots Q (F0 m (pc + 3) ls rest)) : W p l e R s m args below meth c H locs cells slots Q (F0 m pc ls (.int (bI b) :: rest)) := by
  cases b with
  | false => exact lv_if_ne hx hb hdg ht (fun h => absurd rfl h) (fun _ => kf rfl)
  | true => exact lv_if_ne hx hb hdg ht (fun _ => kt rfl) (fun h => absurd h (by decide))
/-- a number against zero -/
theorem n_z_eq {a : Nat} {off : Int} {tgt : Nat} (hx : p.tables.exec = Jvm.exec) (hb : c.code = cc) (hdg : decode cc pc = .ok (.ifCond .eq off, 3)) (ht : (pc : Int) + off = (tgt : Int)) (ha : a < 2 ^ 31)
    (kt : a = 0 → W p l e R s m args below meth c H locs cells slots Q (F0 m tgt ls rest)) (kf : ¬ a = 0 → W p l e R s m args below meth c H locs cells slots Q (F0 m (pc + 3) ls rest)) : W p l e R s m args below meth c H locs cells slots Q (F0 m pc ls (.int (nI a) :: rest)) := lv_if_eq hx hb hdg ht (fun h => kt ((nI_eq ha (by decide)).mp (h.trans nI_0.symm))) (fun h => kf (fun z => h (by rw [z]; exact nI_0)))
theorem n_z_ne {a : Nat} {off : Int} {tgt : Nat} (hx : p.tables.exec = Jvm.exec) (hb : c.code = cc) (hdg : decode cc pc = .ok (.ifCond .ne off, 3)) (ht : (pc : Int) + off = (tgt : Int)) (ha : a < 2 ^ 31)
    (kt : ¬ a = 0 → W p l e R s m args below meth c H locs cells slots Q (F0 m tgt ls rest)) (kf : a = 0 → W p l e R s m args below meth c H locs cells slots Q (F0 m (pc + 3) ls rest)) : W p l e R s m args below meth c H locs cells slots Q (F0 m pc ls (.int (nI a) :: rest)) := by
  exact lv_if_ne hx hb hdg ht (fun h => kt (fun z => h (by rw [z]; exact nI_0))) (fun h => kf ((nI_eq ha (by decide)).mp (h.trans nI_0.symm)))
theorem n_z_lt {a : Nat} {off : Int} {tgt : Nat} (hx : p.tables.exec = Jvm.exec) (hb : c.code = cc) (hdg : decode cc pc = .ok (.ifCond .lt off, 3)) (ht : (pc : Int) + off = (tgt : Int)) (ha : a < 2 ^ 31)
    (kf : W p l e R s m args below meth c H locs cells slots Q (F0 m (pc + 3) ls rest)) : W p l e R s m args below meth c H locs cells slots Q (F0 m pc ls (.int (nI a) :: rest)) := lv_if_lt hx hb hdg ht (fun h => absurd h (nI_pos ha)) (fun _ => kf)
theorem n_goto {off : Int} (tgt : Nat) (hx : p.tables.exec = Jvm.exec) (hb : c.code = cc) (hdg : decode cc pc = .ok (.goto off, 3)) (ht : (pc : Int) + off = (tgt : Int)) (kk : W p l e R s m args below meth c H locs cells slots Q (F0 m tgt ls rest)) : W p l e R s m args below meth c H locs cells slots Q (F0 m pc ls rest) := lv_goto hx hb hdg ht kk
/-- a counter goes on, or back -/
theorem n_iinc (k d : Nat) {i nL a : Nat} {lv lv' : List (Nat × Value)} (hx : p.tables.exec = Jvm.exec) (hb : c.code = cc) (hdg : decode cc pc = .ok (.iinc i (d : Int), 3)) (h : lv_has ls nL lv) (hk : lv[k]? = some (i, .int (nI a))) (hn : i < nL) (hl : (i, Value.int (nI (a + d))) :: lv.filter (fun q => !(q.1 == i) && !(q.1 + 1 == i && q.2.category == 2)) = lv')
    (kk : ∀ ls' : Array Slot, lv_has ls' nL lv' → W p l e R s m args below meth c H locs cells slots Q (F0 m (pc + 3) ls' rest)) : W p l e R s m args below meth c H locs cells slots Q (F0 m pc ls rest) := lv_iinc hx hb hdg h hk (by rw [k_ofInt, nI_add]) hn hl kk
theorem n_idec (k : Nat) {i nL a : Nat} {lv lv' : List (Nat × Value)} (hx : p.tables.exec = Jvm.exec) (hb : c.code = cc) (hdg : decode cc pc = .ok (.iinc i (-1), 3)) (h : lv_has ls nL lv) (hk : lv[k]? = some (i, .int (nI a))) (ha : 1 ≤ a) (hn : i < nL) (hl : (i, Value.int (nI (a - 1))) :: lv.filter (fun q => !(q.1 == i) && !(q.1 + 1 == i && q.2.category == 2)) = lv')
    (kk : ∀ ls' : Array Slot, lv_has ls' nL lv' → W p l e R s m args below meth c H locs cells slots Q (F0 m (pc + 3) ls' rest)) : W p l e R s m args below meth c H locs cells slots Q (F0 m pc ls rest) := lv_iinc hx hb hdg h hk (by
      obtain ⟨b, rfl⟩ : ∃ b, a = b + 1 := ⟨a - 1, by omega⟩
      exact pk_m1 b) hn hl kk
/-- a number or none, against none -/
theorem n_ceq_o {o : Option Nat} {off : Int} {tgt : Nat} (hx : p.tables.exec = Jvm.exec) (hb : c.code = cc) (hdg : decode cc pc = .ok (.if_icmp .eq off, 3)) (ht : (pc : Int) + off = (tgt : Int)) (ho : ∀ k, o = some k → k < 2 ^ 31)
    (kt : o = none → W p l e R s m args below meth c H locs cells slots Q (F0 m tgt ls rest)) (kf : ¬ o = none → W p l e R s m args below meth c H locs cells slots Q (F0 m (pc + 3) ls rest)) : W p l e R s m args below meth c H locs cells slots Q (F0 m pc ls (.int (-9) :: .int (oI o) :: rest)) := lv_icmp_eq hx hb hdg ht (fun h => kt ((k_oI9 ho).mp h)) (fun h => kf (fun z => h ((k_oI9 ho).mpr z)))
theorem n_cne_o {o : Option Nat} {off : Int} {tgt : Nat} (hx : p.tables.exec = Jvm.exec) (hb : c.code = cc) (hdg : decode cc pc = .ok (.if_icmp .ne off, 3)) (ht : (pc : Int) + off = (tgt : Int)) (ho : ∀ k, o = some k → k < 2 ^ 31)
    (kt : ¬ o = none → W p l e R s m args below meth c H locs cells slots Q (F0 m tgt ls rest)) (kf : o = none → W p l e R s m args below meth c H locs cells slots Q (F0 m (pc + 3) ls rest)) : W p l e R s m args below meth c H locs cells slots Q (F0 m pc ls (.int (-9) :: .int (oI o) :: rest)) := by
  exact lv_icmp_ne hx hb hdg ht (fun h => kt (fun z => h ((k_oI9 ho).mpr z))) (fun h => kf ((k_oI9 ho).mp h))
end RWA
end
section
/-! rows over pictures -/
section RWB
variable {p : Program} {l : Launch} {e : Env} {R : Room} {s : State} {m : MethodId} {args : Array Value} {below : List Frame} {meth : Method} {c : Code} {H : Heap} {locs : List Loc} {cells slots : Nat} {Q : State → Prop}
variable {cc : ByteArray} {pc : Nat} {ls : Array Slot} {rest : List Value} {D : va_G} {tys : List (ClassId × FieldType)} {n : Nat} {ad : Nat → Nat} {E : Nat → va_E} {A : Nat → Prop} {H0 : Heap}
/-- a field of the cell i -/
theorem g_get (i k : Nat) {own ref C : String} {T : u_T} {N ci index : Nat} {Ts : List Cond} {fs : List Value} {v : Value} (hx : p.tables.exec = Jvm.exec) (hb : c.code = cc) (hts : ∀ w ∈ Ts, w.before args s = true) (hin : ∀ w ∈ u_ws C T N, w ∈ Ts) (hown : s.vm.findClass own = some m.cls) (hK : KN D tys s) (hP : va_P D vwCl (pic n ad E) H) (hi : i < n) (hE : E i = .inr (ci, fs)) (hc : vwCl[ci]? = some (C, T, N)) (hk : k < N) (hlink : Cond.fieldLink own index ref (T k).2.1 (T k).2.2.1 ∈ Ts) (hr : (T k).1 = ref) (hv : fs[k]? = some v) (hdg : decode cc pc = .ok (.getfield index, 3))
    (kk : W p l e R s m args below meth c H locs cells slots Q (F0 m (pc + 3) ls (v :: rest))) : W p l e R s m args below meth c H locs cells slots Q (F0 m pc ls (.ref (ad i) :: rest)) :=
  va_get hx hb hts hin hown hK.1 hP i (pic_get hi hE) hc k hk (hts _ hlink) (fun x h => by rw [← hr]; exact h) hv hdg kk
/-- a place of the int array that the cell i is -/
theorem g_iald (i j : Nat) {t0 : Nat} {cA : ClassId} {len : Nat} {f : Nat → Nat} (hx : p.tables.exec = Jvm.exec) (hb : c.code = cc) (hK : KN D tys s) (hP : va_P D vwCl (pic n ad E) H) (hi : i < n) (hE : E i = .inl (cA, len, .inl (nF f))) (ht : tys[t0]? = some (cA, .int)) (hj : j < len) (hlen : len < 2 ^ 31) (hdg : decode cc pc = .ok (.iaload, 1))
    (kk : W p l e R s m args below meth c H locs cells slots Q (F0 m (pc + 1) ls (.int (nI (f j)) :: rest))) : W p l e R s m args below meth c H locs cells slots Q (F0 m pc ls (.int (nI j) :: .ref (ad i) :: rest)) := by
  refine va_iald hx hb hK.1 hP i t0 (pic_get hi hE) ht (vp_in_nI hj hlen) hdg ?_
  rw [k_toNat (Nat.lt_trans hj hlen)]
  exact kk
theorem g_alen (i : Nat) {t0 : Nat} {cA : ClassId} {x : vp_A} {ty : FieldType} (hx : p.tables.exec = Jvm.exec) (hb : c.code = cc) (hK : KN D tys s) (hP : va_P D vwCl (pic n ad E) H) (hi : i < n) (hE : E i = .inl (cA, x)) (ht : tys[t0]? = some (cA, ty)) (hdg : decode cc pc = .ok (.arraylength, 1))
    (kk : W p l e R s m args below meth c H locs cells slots Q (F0 m (pc + 1) ls (.int (nI x.1) :: rest))) : W p l e R s m args below meth c H locs cells slots Q (F0 m pc ls (.ref (ad i) :: rest)) :=
  va_alen hx hb hK.1 hP i t0 (pic_get hi hE) ht rfl hdg kk
theorem g_aald (i j : Nat) {t0 : Nat} {cA : ClassId} {C : String} {len a : Nat} {f : Nat → Option Nat} (hx : p.tables.exec = Jvm.exec) (hb : c.code = cc) (hK : KN D tys s) (hP : va_P D vwCl (pic n ad E) H) (hi : i < n) (hE : E i = .inl (cA, len, .inr (.inr (.inr (.inr f))))) (ht : tys[t0]? = some (cA, .object C)) (hj : j < len) (hlen : len < 2 ^ 31) (hf : f j = some a) (hdg : decode cc pc = .ok (.aaload, 1))
    (kk : W p l e R s m args below meth c H locs cells slots Q (F0 m (pc + 1) ls (.ref a :: rest))) : W p l e R s m args below meth c H locs cells slots Q (F0 m pc ls (.int (nI j) :: .ref (ad i) :: rest)) := by
  refine va_aldq hx hb hK.1 hP i t0 (pic_get hi hE) ht (vp_in_nI hj hlen) hdg ?_
  rw [k_toNat (Nat.lt_trans hj hlen), hf]
  exact kk
/-- a place of the int array i gets a number -/
theorem g_iast (i j v : Nat) {t0 : Nat} {cA : ClassId} {len : Nat} {f : Nat → Nat} (hx : p.tables.exec = Jvm.exec) (hb : c.code = cc) (hK : KN D tys s) (hP : va_P D vwCl (pic n ad E) H) (hD : va_D A (pic n ad E)) (hS : va_S A H0 H locs) (hi : i < n) (hE : E i = .inl (cA, len, .inl (nF f))) (ht : tys[t0]? = some (cA, .int)) (hj : j < len) (hlen : len < 2 ^ 31) (hdg : decode cc pc = .ok (.iastore, 1))
    (kk : ∀ (H1 : Heap) (locs1 : List Loc), va_P D vwCl (pic n ad (va_up E i (.inl (cA, len, .inl (nF (va_up f j v)))))) H1 → va_S A H0 H1 locs1 → W p l e R s m args below meth c H1 locs1 cells slots Q (F0 m (pc + 1) ls rest)) : W p l e R s m args below meth c H locs cells slots Q (F0 m pc ls (.int (nI v) :: .int (nI j) :: .ref (ad i) :: rest)) := by
  refine va_iast hx hb hK.1 hP hD hS i t0 (pic_get hi hE) ht (vp_in_nI hj hlen) hdg (fun H1 locs1 hP1 _ hS1 => kk H1 locs1 ?_ hS1)
  rw [pic_set _ hi, k_toNat (Nat.lt_trans hj hlen)] at hP1
  have e : upd (nF f) j (nI v) = nF (va_up f j v) := by
    funext q
    unfold upd nF va_up
    by_cases hq : q = j
    · rw [if_pos hq, if_pos hq]
    · rw [if_neg hq, if_neg hq]
  rw [e] at hP1
  exact hP1
/-- a field of the object i, not final, gets a value -/
theorem g_put (i k : Nat) {own ref C : String} {T : u_T} {N ci index : Nat} {Ts : List Cond} {fs : List Value} {v : Value} {ty : FieldType} (hx : p.tables.exec = Jvm.exec) (hb : c.code = cc) (hts : ∀ w ∈ Ts, w.before args s = true) (hin : ∀ w ∈ u_ws C T N, w ∈ Ts) (ty0 : Nat → FieldType) (hty : ∀ k, k < N → parseFieldDescriptor (T k).2.2.1 = some (ty0 k)) (hnm : ∀ a, a < N → ∀ b, b < N → a ≠ b → (T a).2.1 ≠ (T b).2.1) (hown : s.vm.findClass own = some m.cls) (hK : KN D tys s) (hP : va_P D vwCl (pic n ad E) H) (hD : va_D A (pic n ad E)) (hS : va_S A H0 H locs) (hi : i < n) (hE : E i = .inr (ci, fs)) (hc : vwCl[ci]? = some (C, T, N)) (hk : k < N) (hlink : Cond.fieldLink own index ref (T k).2.1 (T k).2.2.1 ∈ Ts) (hr : (T k).1 = ref) (hfin : (T k).2.2.2 = false) (hd : parseFieldDescriptor (T k).2.2.1 = some ty) (hn : narrow ty v = v) (hfit : fits ty v = true) (hl : k < fs.length) (hdg : decode cc pc = .ok (.putfield index, 3))
    (kk : ∀ (H1 : Heap) (locs1 : List Loc), va_P D vwCl (pic n ad (va_up E i (.inr (ci, fs.set k v)))) H1 → va_S A H0 H1 locs1 → W p l e R s m args below meth c H1 locs1 cells slots Q (F0 m (pc + 3) ls rest)) : W p l e R s m args below meth c H locs cells slots Q (F0 m pc ls (v :: .ref (ad i) :: rest)) := by
  refine va_put hx hb hts hin ty0 hty hnm hown hK.1 hP hD hS i (pic_get hi hE) hc k hk (hts _ hlink) (fun x h => by rw [← hr]; exact h) hfin hd hn hfit hl hdg (fun H1 locs1 hP1 _ hS1 => kk H1 locs1 ?_ hS1)
  rw [pic_set _ hi] at hP1
  exact hP1
/-- the receiver -/
theorem g_recv {i ci : Nat} {C : String} {T : u_T} {N : Nat} {fs : List Value} (hK : KN D tys s) (hP : va_P D vwCl (pic n ad E) H) (hi : i < n) (hE : E i = .inr (ci, fs)) (hc : vwCl[ci]? = some (C, T, N)) : ∃ cell : Cell, H[ad i]? = some cell ∧ cell.vm.isStatics = false ∧ s.vm.findClass C = some cell.cls := va_recv (q := (C, T, N)) hK.1 hP hc (pic_get hi hE)
/-- a call of a method of an object that reads alone -/
theorem g_callV (i : Nat) {y : MethodName} {bytes : ByteArray} {maxL nL k index ci N : Nat} {ret : Option FieldType} {ws Ts : List Cond} {rm : Room} {own C : String} {T : u_T} {fs As st0 : List Value} {r : Value} (hM : Met l y ws rm (va_Pc (.ref (ad i) :: As) (PB D tys n ad E)) (k2_QcV r) 0 0 (fun _ => False)) (cw : CallW R s args own C index y bytes maxL ret ws rm 0 0 k) (hx : p.tables.exec = Jvm.exec) (hb : c.code = cc) (hml : c.maxLocals = nL) (hown : s.vm.findClass own = some m.cls) (hts : ∀ w ∈ Ts, w.before args s = true) (hK : KN D tys s) (hP : va_P D vwCl (pic n ad E) H) (hi : i < n) (hE : E i = .inr (ci, fs)) (hc : vwCl[ci]? = some (C, T, N))
    (hn : As.length = k) (hsize : ls.size = nL) (hst : st0 = As.reverse ++ .ref (ad i) :: rest) (hW : (rest.map fun v => v.category).sum ≤ 8) (hcl : cells ≤ R.cells) (hsl : slots ≤ R.slots) (hdg : decode cc pc = .ok (.invokevirtual index, 3))
    (kk : W p l e R s m args below meth c H locs cells slots Q (F0 m (pc + 3) ls (r :: rest))) : W p l e R s m args below meth c H locs cells slots Q (F0 m pc ls st0) :=
  W.callV (W.runV (As := As) (rest := rest) ⟨hx, hb, hml, hown, hts⟩ hM cw ⟨PB_blind, g_recv hK hP hi hE hc, fun U hU hW => ⟨rfl, by rw [hU]; exact hP, hK.moved hW⟩⟩ rfl hn hsize hst (lv_room hW) hdg ⟨hcl, hsl⟩) kk
/-- a call of a static method that reads alone -/
theorem g_callS {y : MethodName} {bytes : ByteArray} {maxL nL k index : Nat} {ret : Option FieldType} {ws Ts : List Cond} {rm : Room} {own : String} {As st0 : List Value} {r : Value} (hM : Met l y ws rm (va_Pc As (PB D tys n ad E)) (k2_QcV r) 0 0 (fun _ => False)) (cw : CallB R s args own index y bytes maxL ret ws rm 0 0 k ∧ (Cond.static y).before args s = true) (hx : p.tables.exec = Jvm.exec) (hb : c.code = cc) (hml : c.maxLocals = nL) (hown : s.vm.findClass own = some m.cls) (hts : ∀ w ∈ Ts, w.before args s = true) (hK : KN D tys s) (hP : va_P D vwCl (pic n ad E) H)
    (hn : As.length = k) (hsize : ls.size = nL) (hst : st0 = As.reverse ++ rest) (hW : (rest.map fun v => v.category).sum ≤ 8) (hcl : cells ≤ R.cells) (hsl : slots ≤ R.slots) (hdg : decode cc pc = .ok (.invokestatic index, 3))
    (kk : W p l e R s m args below meth c H locs cells slots Q (F0 m (pc + 3) ls (r :: rest))) : W p l e R s m args below meth c H locs cells slots Q (F0 m pc ls st0) :=
  W.callV (W.runS (As := As) (rest := rest) ⟨hx, hb, hml, hown, hts⟩ hM cw ⟨PB_blind, fun U hU hW => ⟨rfl, by rw [hU]; exact hP, hK.moved hW⟩⟩ rfl hn hsize hst (lv_room hW) hdg ⟨hcl, hsl⟩) kk
/-- the call of cellIndex from World -/
theorem g_callSN {y : MethodName} {bytes : ByteArray} {maxL nL k index : Nat} {ret : Option FieldType} {ws ws' Ts : List Cond} {rm : Room} {own host : String} {As st0 : List Value} {r : Value} (hM : Met l y ws rm (va_Pc As (PB D tys n ad E)) (k2_QcV r) 0 0 (fun _ => False)) (hG : GoodIn Ts ws) (hws : ws = Cond.code y bytes maxL ret :: ws') (hrc : rm.cells = 0) (hrs : rm.slots = 0) (hl : va_Nw (.methodLinkNest own index y host) s) (hini : Cond.initialized y.cls ∈ Ts) (hsta : Cond.static y ∈ Ts) (hd : y.cls ≠ "java/lang/invoke/MethodHandle" ∧ y.cls ≠ "java/lang/invoke/VarHandle" ∧ (parseMethodDescriptor y.desc).map (fun d => d.parameters.length) = some k) (hR : rm.frames + 1 ≤ R.frames ∧ 8 + (maxL + 11) + rm.locals ≤ R.locals) (hx : p.tables.exec = Jvm.exec) (hb : c.code = cc) (hml : c.maxLocals = nL) (hown : s.vm.findClass own = some m.cls) (hts : ∀ w ∈ Ts, w.before args s = true) (hK : KN D tys s) (hP : va_P D vwCl (pic n ad E) H)
    (hn : As.length = k) (hsize : ls.size = nL) (hst : st0 = As.reverse ++ rest) (hW : (rest.map fun v => v.category).sum ≤ 8) (hcl : cells ≤ R.cells) (hsl : slots ≤ R.slots) (hdg : decode cc pc = .ok (.invokestatic index, 3))
    (kk : W p l e R s m args below meth c H locs cells slots Q (F0 m (pc + 3) ls (r :: rest))) : W p l e R s m args below meth c H locs cells slots Q (F0 m pc ls st0) :=
  W.callV (va_Run.run (va_runSN (As := As) (rest := rest) ⟨hx, hb, hml, hown, hts⟩ hM ⟨va_cnB k hts hG hws hrc hrs hl (hts _ hini) hd hR, hts _ hsta, trivial⟩ ⟨PB_blind, fun U hU hW => ⟨rfl, by rw [hU]; exact hP, hK.moved hW⟩⟩ rfl hn hsize hst (lv_room hW) hdg ⟨hcl, hsl⟩)) kk
/-- behind a call of a method that writes -/
theorem g_after {mc ms : Nat} {st0 : List Value} {v : Option Value} {B : State → Prop} {a : Array Value} (hr : va_Run p l e R s m args below meth c H locs cells slots mc ms (F0 m pc ls st0) rest (QW v B A a) A) (hS : va_S A H0 H locs)
    (kk : ∀ (t : State) (H1 : Heap) (locs1 : List Loc), t.heap = H1 → s.vm.Alike t.vm → B t → va_S A H0 H1 locs1 → W p l e R s m args below meth c H1 locs1 (cells + mc) (slots + ms) Q (F0 m (pc + 3) ls (v.toList ++ rest))) : W p l e R s m args below meth c H locs cells slots Q (F0 m pc ls st0) := by
  intro T hT X
  obtain ⟨v', st₀, t, T', L, h0, X', hL, e1, e2, ⟨hv, hb, hz, hk⟩, st⟩ := hr T hT X
  cases hv
  rw [h0] at hz hk
  obtain ⟨t2, a1, b1⟩ := kk t T'.heap (locs ++ L) e1.symm (by rw [← e2]; exact X'.warmed.alike) hb
    ⟨Nat.le_trans hS.1 (by rw [e1]; exact hz), fun q h1 h2 => by rw [e1, hk q (Nat.lt_of_lt_of_le h1 hS.1) h2]; exact hS.2.1 q h1 h2, fun q hq => by
      rcases List.mem_append.mp hq with h | h
      · exact hS.2.2 q h
      · exact hL q h⟩ T' rfl X'
  exact ⟨t2, st t2 a1, b1⟩
/-- a call of a method of an object that writes -/
theorem g_callVW (i : Nat) {y : MethodName} {bytes : ByteArray} {maxL nL k index ci N : Nat} {ret : Option FieldType} {ws Ts : List Cond} {rm : Room} {own C : String} {T : u_T} {fs As st0 : List Value} {v : Option Value} {E' : Nat → va_E} (hM : Met l y ws rm (va_Pc (.ref (ad i) :: As) (PW D tys A n ad E)) (QW v (PW D tys A n ad E') A) 0 0 A) (cw : CallW R s args own C index y bytes maxL ret ws rm 0 0 k) (hx : p.tables.exec = Jvm.exec) (hb : c.code = cc) (hml : c.maxLocals = nL) (hown : s.vm.findClass own = some m.cls) (hts : ∀ w ∈ Ts, w.before args s = true) (hK : KN D tys s) (hP : va_P D vwCl (pic n ad E) H) (hD : va_D A (pic n ad E)) (hS : va_S A H0 H locs) (hi : i < n) (hE : E i = .inr (ci, fs)) (hc : vwCl[ci]? = some (C, T, N))
    (hn : As.length = k) (hsize : ls.size = nL) (hst : st0 = As.reverse ++ .ref (ad i) :: rest) (hW : (rest.map fun v => v.category).sum ≤ 8) (hcl : cells ≤ R.cells) (hsl : slots ≤ R.slots) (hdg : decode cc pc = .ok (.invokevirtual index, 3))
    (kk : ∀ (H1 : Heap) (locs1 : List Loc), va_P D vwCl (pic n ad E') H1 → va_S A H0 H1 locs1 → W p l e R s m args below meth c H1 locs1 cells slots Q (F0 m (pc + 3) ls (v.toList ++ rest))) : W p l e R s m args below meth c H locs cells slots Q (F0 m pc ls st0) :=
  g_after (va_runV (As := As) (rest := rest) ⟨hx, hb, hml, hown, hts⟩ hM cw ⟨PW_blind, g_recv hK hP hi hE hc, fun U hU hW => ⟨rfl, by rw [hU]; exact hP, hK.moved hW, hD⟩⟩ rfl hn hsize hst (lv_room hW) hdg ⟨hcl, hsl⟩) hS (fun t H1 locs1 ht _ hB hS1 => kk H1 locs1 (by rw [← ht]; exact hB.1) hS1)
theorem g_callSW {y : MethodName} {bytes : ByteArray} {maxL nL k index : Nat} {ret : Option FieldType} {ws Ts : List Cond} {rm : Room} {own : String} {As st0 : List Value} {v : Option Value} {E' : Nat → va_E} (hM : Met l y ws rm (va_Pc As (PW D tys A n ad E)) (QW v (PW D tys A n ad E') A) 0 0 A) (cw : CallB R s args own index y bytes maxL ret ws rm 0 0 k ∧ (Cond.static y).before args s = true) (hx : p.tables.exec = Jvm.exec) (hb : c.code = cc) (hml : c.maxLocals = nL) (hown : s.vm.findClass own = some m.cls) (hts : ∀ w ∈ Ts, w.before args s = true) (hK : KN D tys s) (hP : va_P D vwCl (pic n ad E) H) (hD : va_D A (pic n ad E)) (hS : va_S A H0 H locs)
    (hn : As.length = k) (hsize : ls.size = nL) (hst : st0 = As.reverse ++ rest) (hW : (rest.map fun v => v.category).sum ≤ 8) (hcl : cells ≤ R.cells) (hsl : slots ≤ R.slots) (hdg : decode cc pc = .ok (.invokestatic index, 3))
    (kk : ∀ (H1 : Heap) (locs1 : List Loc), va_P D vwCl (pic n ad E') H1 → va_S A H0 H1 locs1 → W p l e R s m args below meth c H1 locs1 cells slots Q (F0 m (pc + 3) ls (v.toList ++ rest))) : W p l e R s m args below meth c H locs cells slots Q (F0 m pc ls st0) :=
  g_after (va_runS (As := As) (rest := rest) ⟨hx, hb, hml, hown, hts⟩ hM cw ⟨PW_blind, fun U hU hW => ⟨rfl, by rw [hU]; exact hP, hK.moved hW, hD⟩⟩ rfl hn hsize hst (lv_room hW) hdg ⟨hcl, hsl⟩) hS (fun t H1 locs1 ht _ hB hS1 => kk H1 locs1 (by rw [← ht]; exact hB.1) hS1)
/-- ends -/
theorem g_iret {v : Value} {i : Int32} (hx : p.tables.exec = Jvm.exec) (hb : c.code = cc) (hr : meth.sig.returnType = some .int) (hlocks : meth.locks = false) (hdg : decode cc pc = .ok (.ireturn, 1)) (hv : v = .int i) : W p l e R s m args below meth c s.heap [] 0 0 (MQ below (k2_QcV v) args s 0 0 (fun _ => False)) (F0 m pc ls [.int i]) :=
  W.iret (v := i) hx hb hr (fun t ht _ => ⟨by rw [hv], ht⟩) (fun q h => by cases h) hdg hlocks
theorem narrow_b (b : Bool) : narrow .boolean (.int (bI b)) = .int (bI b) := by cases b <;> rfl
theorem g_zret {v : Value} (b : Bool) (hx : p.tables.exec = Jvm.exec) (hb : c.code = cc) (hr : meth.sig.returnType = some .boolean) (hlocks : meth.locks = false) (hdg : decode cc pc = .ok (.ireturn, 1)) {i : Int32} (hi : i = bI b) (hv : v = .int (bI b)) : W p l e R s m args below meth c s.heap [] 0 0 (MQ below (k2_QcV v) args s 0 0 (fun _ => False)) (F0 m pc ls [.int i]) := by
  subst hi
  exact W.zret (v := bI b) hx hb hr (narrow_b b) (fun t ht _ => ⟨by rw [hv], ht⟩) (fun q h => by cases h) hdg hlocks
theorem g_aret {v w : Value} {rt : FieldType} (hx : p.tables.exec = Jvm.exec) (hb : c.code = cc) (hr : meth.sig.returnType = some rt) (hrt : (∃ n, rt = .object n) ∨ ∃ t, rt = .array t) (hlocks : meth.locks = false) (hdg : decode cc pc = .ok (.areturn, 1)) (hw : w = .null ∨ ∃ a, w = .ref a) (hv : v = w) : W p l e R s m args below meth c s.heap [] 0 0 (MQ below (k2_QcV v) args s 0 0 (fun _ => False)) (F0 m pc ls [w]) :=
  W.aret hx hb hr hrt hw (fun t ht _ => ⟨by rw [hv], ht⟩) (fun q h => by cases h) hdg hlocks
theorem g_iretW {v : Value} {i : Int32} (hx : p.tables.exec = Jvm.exec) (hb : c.code = cc) (hr : meth.sig.returnType = some .int) (hlocks : meth.locks = false) (hK : KN D tys s) (hP : va_P D vwCl (pic n ad E) H) (hD : va_D A (pic n ad E)) (hS : va_S A s.heap H locs) (hdg : decode cc pc = .ok (.ireturn, 1)) (hv : v = .int i) : W p l e R s m args below meth c H locs 0 0 (MQ below (QW (some v) (PW D tys A n ad E) A) args s 0 0 A) (F0 m pc ls [.int i]) :=
  W.iret (v := i) hx hb hr (fun t ht hW => ⟨by rw [hv], ⟨by rw [ht]; exact hP, hK.moved hW, hD⟩, hS.F ht⟩) hS.2.2 hdg hlocks
theorem g_zretW {v : Value} (b : Bool) {i : Int32} (hx : p.tables.exec = Jvm.exec) (hb : c.code = cc) (hr : meth.sig.returnType = some .boolean) (hlocks : meth.locks = false) (hK : KN D tys s) (hP : va_P D vwCl (pic n ad E) H) (hD : va_D A (pic n ad E)) (hS : va_S A s.heap H locs) (hdg : decode cc pc = .ok (.ireturn, 1)) (hi : i = bI b) (hv : v = .int (bI b)) : W p l e R s m args below meth c H locs 0 0 (MQ below (QW (some v) (PW D tys A n ad E) A) args s 0 0 A) (F0 m pc ls [.int i]) := by
  subst hi
  exact W.zret (v := bI b) hx hb hr (narrow_b b) (fun t ht hW => ⟨by rw [hv], ⟨by rw [ht]; exact hP, hK.moved hW, hD⟩, hS.F ht⟩) hS.2.2 hdg hlocks
theorem g_vretW (hx : p.tables.exec = Jvm.exec) (hb : c.code = cc) (hr : meth.sig.returnType = none) (hlocks : meth.locks = false) (hK : KN D tys s) (hP : va_P D vwCl (pic n ad E) H) (hD : va_D A (pic n ad E)) (hS : va_S A s.heap H locs) (hdg : decode cc pc = .ok (.return_, 1)) : W p l e R s m args below meth c H locs 0 0 (MQ below (QW none (PW D tys A n ad E) A) args s 0 0 A) (F0 m pc ls []) :=
  W.vret hx hb hr (fun t ht hW => ⟨rfl, ⟨by rw [ht]; exact hP, hK.moved hW, hD⟩, hS.F ht⟩) hS.2.2 hdg hlocks
end RWB
/-- a method that reads alone, from its entry -/
theorem g_pure {l : Launch} {D : va_G} {tys : List (ClassId × FieldType)} {n : Nat} {ad : Nat → Nat} {E : Nat → va_E} {y : MethodName} {ws ws' : List Cond} {rm : Room} {cc : ByteArray} {maxL : Nat} {ret : Option FieldType} {As : List Value} {v : Value} (hy : plainName y.cls = true) (hw : ws = Cond.code y cc maxL ret :: ws') (hlen : (lg_sl As).length ≤ maxL)
    (body : ∀ p e s m args below meth c, p.tables.exec = Jvm.exec → c.code = cc → meth.sig.returnType = ret → (∀ w ∈ ws, w.before args s = true) → s.vm.findClass y.cls = some m.cls → meth.locks = false → c.maxLocals = maxL → va_P D vwCl (pic n ad E) s.heap → KN D tys s → ∀ ls, lv_has ls maxL (lv_args 0 As) → W p l e (headSpec ws rm).room s m args below meth c s.heap [] 0 0 (MQ below (k2_QcV v) args s 0 0 (fun _ => False)) (F0 m 0 ls [])) : Met l y ws rm (va_Pc As (PB D tys n ad E)) (k2_QcV v) 0 0 (fun _ => False) := by
  refine Met.ofW (cc := cc) (maxL := maxL) (ret := ret) hy hw ?_
  intro p e s m args below meth c s₁ B hml hv
  obtain ⟨rfl, hP, hK⟩ := hv
  rw [lg_entry_eq]
  exact body p e s m _ below meth c B.exec B.bytes B.returns (atoms_spec (ws := ws) B.pre) (findClass_of_methodNamed B.named) B.notSynchronized hml hP hK _ (lv_entry As hlen)
/-- a method that writes, from its entry -/
theorem g_writes {l : Launch} {D : va_G} {tys : List (ClassId × FieldType)} {A : Nat → Prop} {n : Nat} {ad : Nat → Nat} {E E' : Nat → va_E} {y : MethodName} {ws ws' : List Cond} {rm : Room} {cc : ByteArray} {maxL : Nat} {ret : Option FieldType} {As : List Value} {v : Option Value} (hy : plainName y.cls = true) (hw : ws = Cond.code y cc maxL ret :: ws') (hlen : (lg_sl As).length ≤ maxL)
    (body : ∀ p e s m args below meth c, p.tables.exec = Jvm.exec → c.code = cc → meth.sig.returnType = ret → (∀ w ∈ ws, w.before args s = true) → s.vm.findClass y.cls = some m.cls → meth.locks = false → c.maxLocals = maxL → va_P D vwCl (pic n ad E) s.heap → KN D tys s → va_D A (pic n ad E) → va_S A s.heap s.heap [] → ∀ ls, lv_has ls maxL (lv_args 0 As) → W p l e (headSpec ws rm).room s m args below meth c s.heap [] 0 0 (MQ below (QW v (PW D tys A n ad E') A) args s 0 0 A) (F0 m 0 ls [])) : Met l y ws rm (va_Pc As (PW D tys A n ad E)) (QW v (PW D tys A n ad E') A) 0 0 A := by
  refine Met.ofW (cc := cc) (maxL := maxL) (ret := ret) hy hw ?_
  intro p e s m args below meth c s₁ B hml hv
  obtain ⟨rfl, hP, hK, hD⟩ := hv
  rw [lg_entry_eq]
  exact body p e s m _ below meth c B.exec B.bytes B.returns (atoms_spec (ws := ws) B.pre) (findClass_of_methodNamed B.named) B.notSynchronized hml hP hK hD va_S.rf _ (lv_entry As hlen)
end
section
/-! what the numbers are: sums bit by bit, counts, the first of its kind -/
def xs (f : Nat → Nat) : Nat → Nat
  | 0 => 0
  | n + 1 => xs f n ^^^ f n
def cnt (p : Nat → Bool) : Nat → Nat
  | 0 => 0
  | n + 1 => cnt p n + (if p n then 1 else 0)
/-- the least number from a on, of r, with p -/
def fl (p : Nat → Bool) : Nat → Nat → Option Nat
  | _, 0 => none
  | a, r + 1 => if p a then some a else fl p (a + 1) r
/-- all numbers from a on, of r, have p -/
def al (p : Nat → Bool) : Nat → Bool
  | 0 => true
  | n + 1 => al p n && p n
theorem xs_s (f : Nat → Nat) (n : Nat) : xs f (n + 1) = xs f n ^^^ f n := rfl
theorem cnt_s (p : Nat → Bool) (n : Nat) : cnt p (n + 1) = cnt p n + (if p n then 1 else 0) := rfl
theorem al_s (p : Nat → Bool) (n : Nat) : al p (n + 1) = (al p n && p n) := rfl
theorem al_iff {p : Nat → Bool} : ∀ {n : Nat}, al p n = true ↔ ∀ k, k < n → p k = true
  | 0 => by simp [al]
  | n + 1 => by
    rw [al_s, Bool.and_eq_true, al_iff]
    constructor
    · intro h k hk
      rcases Nat.lt_succ_iff_lt_or_eq.mp hk with q | q
      · exact h.1 k q
      · rw [q]; exact h.2
    · exact fun h => ⟨fun k hk => h k (by omega), h n (by omega)⟩
theorem fl_some {p : Nat → Bool} : ∀ {r a k : Nat}, fl p a r = some k → a ≤ k ∧ k < a + r ∧ p k = true ∧ ∀ j, a ≤ j → j < k → p j = false
  | 0, a, k, h => by simp [fl] at h
  | r + 1, a, k, h => by
    unfold fl at h
    by_cases q : p a = true
    · rw [if_pos q] at h
      cases h
      exact ⟨Nat.le_refl _, by omega, q, fun j h1 h2 => by omega⟩
    · rw [if_neg q] at h
      obtain ⟨h1, h2, h3, h4⟩ := fl_some h
      refine ⟨by omega, by omega, h3, fun j g1 g2 => ?_⟩
      rcases Nat.lt_or_ge a j with z | z
      · exact h4 j (by omega) g2
      · rw [show j = a by omega]; simpa using q
theorem fl_none {p : Nat → Bool} : ∀ {r a : Nat}, fl p a r = none ↔ ∀ j, a ≤ j → j < a + r → p j = false
  | 0, a => by simp [fl]; intro j h1 h2; omega
  | r + 1, a => by
    unfold fl
    by_cases q : p a = true
    · rw [if_pos q]
      constructor
      · intro h; cases h
      · intro h
        have := h a (Nat.le_refl _) (by omega)
        rw [this] at q; cases q
    · rw [if_neg q, fl_none]
      constructor
      · intro h j h1 h2
        rcases Nat.lt_or_ge a j with z | z
        · exact h j (by omega) (by omega)
        · rw [show j = a by omega]; simpa using q
      · exact fun h j h1 h2 => h j (by omega) (by omega)
theorem fl_go {p : Nat → Bool} {a r : Nat} (h : p a = false) : fl p a (r + 1) = fl p (a + 1) r := by
  show (if p a then some a else fl p (a + 1) r) = _
  rw [h]; rfl
theorem fl_hit {p : Nat → Bool} {a r : Nat} (h : p a = true) : fl p a (r + 1) = some a := by
  show (if p a then some a else fl p (a + 1) r) = _
  rw [h]; rfl
/-- the product in a world of n with the cells c -/
def tmi (n : Nat) (c : Nat → Nat) (x y i : Nat) : Nat := xs (fun j => if x.testBit i && y.testBit j then c (4 * i + j) else 0) n
def tm (n : Nat) (c : Nat → Nat) (x y : Nat) : Nat := xs (tmi n c x y) n
/-- the table t is that of the cells c -/
def tOK (n : Nat) (c t : Nat → Nat) : Prop := ∀ x, x < 2 ^ n → ∀ y, y < 2 ^ n → t (16 * x + y) = tm n c x y
def isW (cI : ClassId) (ad : Nat → Nat) (E : Nat → va_E) (b n : Nat) (c t : Nat → Nat) : Prop :=
  E b = .inr (0, [.int (nI n), .int (nI (2 ^ n)), .ref (ad (b + 1)), .ref (ad (b + 2))]) ∧ E (b + 1) = .inl (cI, 16, .inl (nF c)) ∧ E (b + 2) = .inl (cI, 256, .inl (nF t))
theorem and1_lt (a : Nat) : a &&& 1 < 2 ^ 31 := Nat.lt_of_le_of_lt Nat.and_le_right (by decide)
theorem and1_bit (a : Nat) : a &&& 1 = 1 ↔ a.testBit 0 = true := by
  rw [Nat.and_one_is_mod, Nat.testBit_zero]
  simp
theorem bit1 (x y i j : Nat) : ((x >>> i) &&& (y >>> j)) &&& 1 = 1 ↔ (x.testBit i && y.testBit j) = true := by
  rw [and1_bit, Nat.testBit_and, Nat.testBit_shiftRight, Nat.testBit_shiftRight, Nat.add_zero, Nat.add_zero]
theorem bit1' (x i : Nat) : (x >>> i) &&& 1 = 1 ↔ x.testBit i = true := by
  rw [and1_bit, Nat.testBit_shiftRight, Nat.add_zero]
theorem ci_eq : ∀ i, i < 4 → ∀ j, j < 4 → (i &&& 3) <<< 2 ||| (j &&& 3) = 4 * i + j := by decide
theorem ti_eq : ∀ i, i < 16 → ∀ j, j < 16 → (i &&& 15) <<< 4 ||| (j &&& 15) = 16 * i + j := by decide +kernel
theorem pow4 {n : Nat} (h : n ≤ 4) : 2 ^ n ≤ 16 := Nat.pow_le_pow_right (by decide) h
theorem xs_at {f : Nat → Nat} {n v : Nat} (h : f n = v) : xs f (n + 1) = xs f n ^^^ v := by rw [xs_s, h]
theorem xs_lt {f : Nat → Nat} {m : Nat} : ∀ {n : Nat}, (∀ i, i < n → f i < 2 ^ m) → xs f n < 2 ^ m
  | 0, _ => Nat.pow_pos (by decide)
  | n + 1, h => Nat.xor_lt_two_pow (xs_lt (fun i hi => h i (by omega))) (h n (by omega))
theorem xs_cong {f g : Nat → Nat} : ∀ {n : Nat}, (∀ i, i < n → f i = g i) → xs f n = xs g n
  | 0, _ => rfl
  | n + 1, h => by rw [xs_s, xs_s, xs_cong (fun i hi => h i (by omega)), h n (by omega)]
theorem cnt_cong {p q : Nat → Bool} : ∀ {n : Nat}, (∀ i, i < n → p i = q i) → cnt p n = cnt q n
  | 0, _ => rfl
  | n + 1, h => by rw [cnt_s, cnt_s, cnt_cong (fun i hi => h i (by omega)), h n (by omega)]
theorem cnt_y {p : Nat → Bool} {n : Nat} (h : p n = true) : cnt p (n + 1) = cnt p n + 1 := by rw [cnt_s, if_pos h]
theorem cnt_n {p : Nat → Bool} {n : Nat} (h : p n = false) : cnt p (n + 1) = cnt p n := by rw [cnt_s, h]; rfl
theorem cnt_le (p : Nat → Bool) : ∀ n, cnt p n ≤ n
  | 0 => Nat.le_refl _
  | n + 1 => by
    have := cnt_le p n
    rw [cnt_s]
    split <;> omega
theorem cnt_mono (p : Nat → Bool) (m : Nat) : ∀ n, cnt p m ≤ cnt p (m + n)
  | 0 => Nat.le_refl _
  | n + 1 => by
    have := cnt_mono p m n
    rw [← Nat.add_assoc, cnt_s]
    omega
theorem cnt_up (p : Nat → Bool) {m n : Nat} (h : m ≤ n) : cnt p m ≤ cnt p n := by
  obtain ⟨k, rfl⟩ : ∃ k, n = m + k := ⟨n - m, by omega⟩
  exact cnt_mono p m k
theorem cnt_0 {p : Nat → Bool} : ∀ {n : Nat}, (∀ k, k < n → p k = false) → cnt p n = 0
  | 0, _ => rfl
  | n + 1, h => by rw [cnt_n (h n (by omega)), cnt_0 (fun k hk => h k (by omega))]
theorem fl_at {p : Nat → Bool} : ∀ {r a k : Nat}, a ≤ k → k < a + r → p k = true → (∀ j, a ≤ j → j < k → p j = false) → fl p a r = some k
  | 0, a, k, h1, h2, _, _ => absurd h2 (by omega)
  | r + 1, a, k, h1, h2, h3, h4 => by
    rcases Nat.lt_or_ge a k with q | q
    · rw [fl_go (h4 a (Nat.le_refl _) q)]
      exact fl_at (by omega) (by omega) h3 (fun j g1 g2 => h4 j (by omega) g2)
    · have e : k = a := by omega
      subst e
      exact fl_hit h3
theorem fl_no {p : Nat → Bool} {a r : Nat} (h : ∀ j, a ≤ j → j < a + r → p j = false) : fl p a r = none := fl_none.mpr h
theorem no_s {p : Nat → Bool} {a y : Nat} (h : ∀ j, a ≤ j → j < y → p j = false) (hy : p y = false) : ∀ j, a ≤ j → j < y + 1 → p j = false := fun j h1 h2 => by
  rcases Nat.lt_succ_iff_lt_or_eq.mp h2 with q | q
  · exact h j h1 q
  · rw [q]; exact hy
theorem ya_s {p : Nat → Bool} {y : Nat} (h : ∀ j, j < y → p j = true) (hy : p y = true) : ∀ j, j < y + 1 → p j = true := fun j h2 => by
  rcases Nat.lt_succ_iff_lt_or_eq.mp h2 with q | q
  · exact h j q
  · rw [q]; exact hy
theorem al_no {p : Nat → Bool} {n k : Nat} (hk : k < n) (h : p k = false) : al p n = false := by
  cases e : al p n with
  | false => rfl
  | true => rw [al_iff.mp e k hk] at h; cases h
theorem al_yes {p : Nat → Bool} {n : Nat} (h : ∀ k, k < n → p k = true) : al p n = true := al_iff.mpr h
theorem bT {a b : Nat} (h : a = b) : (a == b) = true := beq_iff_eq.mpr h
theorem bF {a b : Nat} (h : ¬ a = b) : (a == b) = false := by simp [h]
theorem sF {o : Option Nat} (h : o = none) : o.isSome = false := by rw [h]; rfl
theorem sT {o : Option Nat} (h : ¬ o = none) : o.isSome = true := by
  cases o with
  | none => exact absurd rfl h
  | some k => rfl
/-- the only one with p below n -/
def uq (p : Nat → Bool) (n : Nat) : Option Nat := if cnt p n = 1 then fl p 0 n else none
/-- the sum of f below n -/
def sm (f : Nat → Nat) : Nat → Nat
  | 0 => 0
  | n + 1 => sm f n + f n
theorem sm_s (f : Nat → Nat) (n : Nat) : sm f (n + 1) = sm f n + f n := rfl
theorem sm_cong {f g : Nat → Nat} : ∀ {n : Nat}, (∀ i, i < n → f i = g i) → sm f n = sm g n
  | 0, _ => rfl
  | n + 1, h => by rw [sm_s, sm_s, sm_cong (fun i hi => h i (by omega)), h n (by omega)]
/-- all f below n, by or -/
def os (f : Nat → Nat) : Nat → Nat
  | 0 => 0
  | n + 1 => os f n ||| f n
theorem os_s (f : Nat → Nat) (n : Nat) : os f (n + 1) = os f n ||| f n := rfl
theorem os_lt {f : Nat → Nat} {m : Nat} : ∀ {n : Nat}, (∀ i, i < n → f i < 2 ^ m) → os f n < 2 ^ m
  | 0, _ => Nat.pow_pos (by decide)
  | n + 1, h => Nat.or_lt_two_pow (os_lt (fun i hi => h i (by omega))) (h n (by omega))
theorem os_bit {f : Nat → Nat} {k : Nat} : ∀ {n : Nat}, (os f n).testBit k = true ↔ ∃ i, i < n ∧ (f i).testBit k = true
  | 0 => by simp [os]
  | n + 1 => by
    rw [os_s, Nat.testBit_or, Bool.or_eq_true, os_bit]
    constructor
    · rintro (⟨i, h1, h2⟩ | h)
      · exact ⟨i, by omega, h2⟩
      · exact ⟨n, by omega, h⟩
    · rintro ⟨i, h1, h2⟩
      rcases Nat.lt_succ_iff_lt_or_eq.mp h1 with q | q
      · exact Or.inl ⟨i, q, h2⟩
      · subst q; exact Or.inr h2
def CB (n : Nat) (c : Nat → Nat) : Prop := ∀ i, i < n → ∀ j, j < n → c (4 * i + j) < 2 ^ n
theorem tm_lt {n : Nat} {c : Nat → Nat} (h : CB n c) (x y : Nat) : tm n c x y < 2 ^ n := xs_lt (fun i hi => xs_lt (fun j hj => by
  show (if _ then _ else _) < _
  split
  · exact h i hi j hj
  · exact Nat.pow_pos (by decide)))
def lpr (n : Nat) (c : Nat → Nat) (x : Nat) : Option Nat := fl (fun y => tm n c x y == 0) 1 (2 ^ n - 1)
def lbr (n : Nat) (c : Nat → Nat) : Option Nat := fl (fun x => (lpr n c x).isSome) 1 (2 ^ n - 1)
def isU (n : Nat) (c : Nat → Nat) (e : Nat) : Bool := al (fun x => (tm n c e x == x) && (tm n c x e == x)) (2 ^ n)
def unt (n : Nat) (c : Nat → Nat) : Option Nat := fl (isU n c) 0 (2 ^ n)
def slp (n : Nat) (c : Nat → Nat) (x z : Nat) (L : Bool) (y : Nat) : Bool := (if L then tm n c x y else tm n c y x) == z
def slv (n : Nat) (c : Nat → Nat) (x z : Nat) (L : Bool) : Option Nat := uq (slp n c x z L) (2 ^ n)
def comB (n : Nat) (c : Nat → Nat) (x : Nat) : Bool := al (fun j => tm n c x (1 <<< j) == tm n c (1 <<< j) x) n
def iop (n : Nat) (c : Nat → Nat) (p q r : Nat) : Bool := tm n c p (tm n c q r) == tm n c (tm n c p q) r
def asw (n : Nat) (c : Nat → Nat) (x y z w : Nat) : Bool := if w = 0 then iop n c x y z else if w = 1 then iop n c y x z else iop n c y z x
def assB (n : Nat) (c : Nat → Nat) (x w : Nat) : Bool := al (fun i => al (fun j => asw n c x (1 <<< i) (1 <<< j) w) n) n
def jnB (n : Nat) (c : Nat → Nat) (x w : Nat) : Bool := if w = 3 then (comB n c x && (assB n c x 0 && (assB n c x 1 && assB n c x 2))) else assB n c x w
def unl (n : Nat) (c : Nat → Nat) : Nat := sm (fun x => cnt (fun y => !(tm n c x y == tm n c y x)) (2 ^ n)) (2 ^ n)
/-- how many bits: the least r with at most 2 to the r numbers -/
def lgn (m : Nat) : Nat := (fl (fun r => decide (m ≤ 2 ^ r)) 0 5).getD 0
def pcn (x : Nat) : Nat := cnt (fun k => x.testBit k) 16
def rnk (n : Nat) (c : Nat → Nat) (y : Nat) : Nat := lgn (pcn (os (fun x => 1 <<< tm n c x y) (2 ^ n)))
theorem lgn_at {m r : Nat} (h1 : m ≤ 2 ^ r) (h2 : ∀ j, j < r → 2 ^ j < m) (hr : r < 5) : lgn m = r := by
  unfold lgn
  rw [fl_at (Nat.zero_le r) (by omega) (by simpa using h1) (fun j _ hj => by simpa using h2 j hj)]
  rfl
theorem pcn_le {x n : Nat} (h : x < 2 ^ n) (hn : n ≤ 16) : pcn x ≤ n := by
  have h0 : ∀ k, cnt (fun k => x.testBit k) (n + k) = cnt (fun k => x.testBit k) n := by
    intro k
    induction k with
    | zero => rfl
    | succ k ih =>
      rw [← Nat.add_assoc, cnt_n, ih]
      exact Nat.testBit_lt_two_pow (Nat.lt_of_lt_of_le h (Nat.pow_le_pow_right (by decide) (by omega)))
  have := h0 (16 - n)
  rw [show n + (16 - n) = 16 by omega] at this
  show cnt _ 16 ≤ n
  rw [this]
  exact cnt_le _ _
theorem shl1 (k : Nat) : 1 <<< k = 2 ^ k := by rw [Nat.shiftLeft_eq, Nat.one_mul]
theorem shl1_lt {k n : Nat} (h : k < n) : 1 <<< k < 2 ^ n := by rw [shl1]; exact Nat.pow_lt_pow_right (by decide) h
theorem pw2 {a b : Nat} (h : a ≤ b) : 2 ^ a ≤ 2 ^ b := Nat.pow_le_pow_right (by decide) h
/-- a range of ints -/
def rB (lo hi : Nat) (x : Int32) : Bool := decide (nI lo ≤ x ∧ x ≤ nI hi)
theorem nI_toInt' {n : Nat} (h : n < 2 ^ 31) : (nI n).toInt = (n : Int) := nI_toInt h
theorem i_lt {a b : Int32} : a < b ↔ a.toInt < b.toInt := Int32.lt_iff_toInt_lt
theorem i_le {a b : Int32} : a ≤ b ↔ a.toInt ≤ b.toInt := Int32.le_iff_toInt_le
theorem i0 : (0 : Int32).toInt = 0 := by decide
theorem rB_some {lo hi : Nat} {x : Int32} (hl : lo < 2 ^ 31) (hh : hi < 2 ^ 31) (h : rB lo hi x = true) : ∃ k, lo ≤ k ∧ k ≤ hi ∧ x = nI k := by
  obtain ⟨h1, h2⟩ := of_decide_eq_true h
  rw [i_le, nI_toInt' hl] at h1
  rw [i_le, nI_toInt' hh] at h2
  refine ⟨x.toInt.toNat, by omega, by omega, ?_⟩
  apply Int32.toInt_inj.mp
  rw [nI_toInt' (by omega)]
  omega
theorem rB_nI {lo hi k : Nat} (hh : hi < 2 ^ 31) (hl : lo < 2 ^ 31) (hk : k < 2 ^ 31) : rB lo hi (nI k) = decide (lo ≤ k ∧ k ≤ hi) := by
  exact decide_eq_decide.mpr (by rw [nI_leI hl hk, nI_leI hk hh])
theorem rB_0 {N : Nat} {x : Int32} (h0 : 0 < N) (hN : N < 2 ^ 31) : rB 0 (N - 1) x = decide (¬ x < 0 ∧ ¬ nI N ≤ x) := by
  refine decide_eq_decide.mpr ?_
  rw [i_le, i_le, i_lt, i_le, nI_toInt' (by omega), nI_toInt' (by omega), nI_toInt' hN, i0]
  constructor
  · rintro ⟨h1, h2⟩; constructor <;> omega
  · rintro ⟨h1, h2⟩; constructor <;> omega
theorem iN {o : Option Nat} (h : ¬ o = none) : o.isNone = false := by
  cases o with
  | none => exact absurd rfl h
  | some k => rfl
theorem va_up_same {α : Type} {f : Nat → α} {k : Nat} {v : α} (h : f k = v) : va_up f k v = f := by
  funext j
  unfold va_up
  by_cases e : j = k
  · rw [if_pos e, e, h]
  · rw [if_neg e]
theorem va_up_up {α : Type} (f : Nat → α) (k : Nat) (v w : α) : va_up (va_up f k v) k w = va_up f k w := by
  funext j
  unfold va_up
  by_cases e : j = k
  · rw [if_pos e, if_pos e]
  · rw [if_neg e, if_neg e, if_neg e]
theorem va_up_at {α : Type} (f : Nat → α) (k : Nat) (v : α) : va_up f k v k = v := if_pos rfl
theorem va_up_o {α : Type} {f : Nat → α} {k j : Nat} {v : α} (h : j ≠ k) : va_up f k v j = f j := if_neg h
theorem isW.up1 {cI : ClassId} {ad : Nat → Nat} {E : Nat → va_E} {b n : Nat} {c t : Nat → Nat} (h : isW cI ad E b n c t) (c' : Nat → Nat) : isW cI ad (va_up E (b + 1) (.inl (cI, 16, .inl (nF c')))) b n c' t :=
  ⟨by rw [va_up_o (by omega)]; exact h.1, va_up_at _ _ _, by rw [va_up_o (by omega)]; exact h.2.2⟩
theorem isW.up2 {cI : ClassId} {ad : Nat → Nat} {E : Nat → va_E} {b n : Nat} {c t : Nat → Nat} (h : isW cI ad E b n c t) (t' : Nat → Nat) : isW cI ad (va_up E (b + 2) (.inl (cI, 256, .inl (nF t')))) b n c t' :=
  ⟨by rw [va_up_o (by omega)]; exact h.1, by rw [va_up_o (by omega)]; exact h.2.1, va_up_at _ _ _⟩
/-- the table when it is filled up to row x, place y -/
def pf (n : Nat) (c t : Nat → Nat) (x y q : Nat) : Nat := if (q / 16 < x ∧ q % 16 < 2 ^ n) ∨ (q / 16 = x ∧ q % 16 < y) then tm n c (q / 16) (q % 16) else t q
theorem pf_00 (n : Nat) (c t : Nat → Nat) : pf n c t 0 0 = t := by
  funext q
  unfold pf
  rw [if_neg (by omega)]
theorem pf_put {n : Nat} {c t : Nat → Nat} {i j : Nat} (hi : i < 2 ^ n) (hj : j < 2 ^ n) (hn : 2 ^ n ≤ 16) : va_up (pf n c t i j) (16 * i + j) (tm n c i j) = pf n c t i (j + 1) := by
  funext q
  unfold va_up pf
  by_cases e : q = 16 * i + j
  · have h1 : q / 16 = i := by omega
    have h2 : q % 16 = j := by omega
    rw [if_pos e, h1, h2, if_pos (by omega)]
  · rw [if_neg e]
    by_cases h : (q / 16 < i ∧ q % 16 < 2 ^ n) ∨ (q / 16 = i ∧ q % 16 < j)
    · rw [if_pos h, if_pos (by omega)]
    · rw [if_neg h, if_neg (by omega)]
theorem pf_row {n : Nat} {c t : Nat → Nat} {i : Nat} (hn : 2 ^ n ≤ 16) : pf n c t i (2 ^ n) = pf n c t (i + 1) 0 := by
  funext q
  unfold pf
  by_cases h : (q / 16 < i ∧ q % 16 < 2 ^ n) ∨ (q / 16 = i ∧ q % 16 < 2 ^ n)
  · rw [if_pos h, if_pos (by omega)]
  · rw [if_neg h, if_neg (by omega)]
theorem pf_OK {n : Nat} {c t : Nat → Nat} (hn : 2 ^ n ≤ 16) : tOK n c (pf n c t (2 ^ n) 0) := by
  intro x hx y hy
  unfold pf
  have h1 : (16 * x + y) / 16 = x := by omega
  have h2 : (16 * x + y) % 16 = y := by omega
  rw [h1, h2, if_pos (by omega)]
/-- a row when its first k places are copied -/
def cpy (e c : Nat → Nat) (k q : Nat) : Nat := if q < k then e q else c q
theorem cpy_0 (e c : Nat → Nat) : cpy e c 0 = c := by
  funext q
  unfold cpy
  rw [if_neg (by omega)]
theorem cpy_put {e c : Nat → Nat} {k : Nat} : va_up (cpy e c k) k (e k) = cpy e c (k + 1) := by
  funext q
  unfold va_up cpy
  by_cases h : q = k
  · rw [if_pos h, if_pos (by omega), h]
  · rw [if_neg h]
    by_cases h2 : q < k
    · rw [if_pos h2, if_pos (by omega)]
    · rw [if_neg h2, if_neg (by omega)]
theorem tk_0 {cI : ClassId} {ad : Nat → Nat} {E : Nat → va_E} {b n : Nat} {c t : Nat → Nat} {v : va_E} {e : Nat → Nat} (h : isW cI ad E b n c t) : va_up (va_up E b v) (b + 1) (.inl (cI, 16, .inl (nF (cpy e c 0)))) = va_up E b v := va_up_same (by rw [va_up_o (by omega), cpy_0]; exact h.2.1)
theorem tk_W {cI : ClassId} {ad : Nat → Nat} {E : Nat → va_E} {b n K : Nat} {c t : Nat → Nat} (h : isW cI ad E b n c t) (e : Nat → Nat) (i : Nat) : isW cI ad (va_up (va_up E b (.inr (0, [.int (nI K), .int (nI (2 ^ K)), .ref (ad (b + 1)), .ref (ad (b + 2))]))) (b + 1) (.inl (cI, 16, .inl (nF (cpy e c i))))) b K (cpy e c i) t :=
  ⟨by rw [va_up_o (by omega), va_up_at], va_up_at _ _ _, by rw [va_up_o (by omega), va_up_o (by omega)]; exact h.2.2⟩
theorem tk_X {E : Nat → va_E} {b x : Nat} {v w u : va_E} (h : x < b ∨ b + 2 < x) (hx : E x = u) : va_up (va_up E b v) (b + 1) w x = u := by rw [va_up_o (by omega), va_up_o (by omega)]; exact hx
-- the only one
theorem slp_t {n : Nat} {c : Nat → Nat} {x y z : Nat} {L : Bool} (h : L = true) (e : tm n c x y = z) : slp n c x z L y = true := by unfold slp; rw [if_pos h]; exact bT e
theorem slp_f {n : Nat} {c : Nat → Nat} {x y z : Nat} {L : Bool} (h : L = false) (e : tm n c y x = z) : slp n c x z L y = true := by unfold slp; rw [h]; exact bT e
theorem slp_tn {n : Nat} {c : Nat → Nat} {x y z : Nat} {L : Bool} (h : L = true) (e : ¬ tm n c x y = z) : slp n c x z L y = false := by unfold slp; rw [if_pos h]; exact bF e
theorem slp_fn {n : Nat} {c : Nat → Nat} {x y z : Nat} {L : Bool} (h : L = false) (e : ¬ tm n c y x = z) : slp n c x z L y = false := by unfold slp; rw [h]; exact bF e
section SLV
variable {p : Nat → Bool} {fo : Option Nat} {y n : Nat}
theorem slv_hit1 (h : fo = none) (hf : fo = fl p 0 y) (hp : p y = true) : some y = fl p 0 (y + 1) :=
  (fl_at (Nat.zero_le y) (by omega) hp (fun j h1 h2 => fl_none.mp (hf.symm.trans h) j h1 (by omega))).symm
theorem slv_hit2 (h : fo = none) (hc : cnt p y = if fo = none then 0 else 1) (hp : p y = true) : cnt p (y + 1) = if some y = none then 0 else 1 := by
  rw [cnt_y hp, hc, if_pos h, if_neg (by simp)]
theorem fl_snoc_n : ∀ {r a : Nat}, p (a + r) = false → fl p a (r + 1) = fl p a r
  | 0, a, h => by rw [fl_go (by simpa using h)]; rfl
  | r + 1, a, h => by
    by_cases q : p a = true
    · rw [fl_hit q, fl_hit q]
    · have q' : p a = false := by simpa using q
      rw [fl_go q', fl_go q']
      exact fl_snoc_n (by rw [← h]; congr 1; omega)
theorem fl_snoc_s {k : Nat} : ∀ {r a : Nat}, fl p a r = some k → fl p a (r + 1) = some k
  | 0, a, h => by simp [fl] at h
  | r + 1, a, h => by
    by_cases q : p a = true
    · rw [fl_hit q] at h ⊢; exact h
    · have q' : p a = false := by simpa using q
      rw [fl_go q'] at h ⊢
      exact fl_snoc_s h
theorem slv_mis1 (hf : fo = fl p 0 y) (hp : p y = false) : fo = fl p 0 (y + 1) := by rw [fl_snoc_n (by simpa using hp)]; exact hf
theorem slv_mis2 (hc : cnt p y = if fo = none then 0 else 1) (hp : p y = false) : cnt p (y + 1) = if fo = none then 0 else 1 := by rw [cnt_n hp]; exact hc
theorem slv_two (h : ¬ fo = none) (hc : cnt p y = if fo = none then 0 else 1) (hp : p y = true) (hy : y < n) : uq p n = none := by
  have h1 : cnt p (y + 1) = 2 := by rw [cnt_y hp, hc, if_neg h]
  have h2 := cnt_up p (show y + 1 ≤ n from hy)
  unfold uq
  rw [if_neg (by omega)]
theorem slv_end (hf : fo = fl p 0 y) (hc : cnt p y = if fo = none then 0 else 1) (hy : y = n) : uq p n = fo := by
  subst hy
  unfold uq
  by_cases h : fo = none
  · rw [if_pos h] at hc
    rw [if_neg (by omega)]; exact h.symm
  · rw [if_neg h] at hc
    rw [if_pos hc]; exact hf.symm
end SLV
def bc1 (x : Nat) : Nat := x - ((x >>> 1) &&& 1431655765)
def bc2 (x : Nat) : Nat := (bc1 x &&& 858993459) + ((bc1 x >>> 2) &&& 858993459)
def bc3 (x : Nat) : Nat := (bc2 x + (bc2 x >>> 4)) &&& 252645135
def bc4 (x : Nat) : Nat := bc3 x + (bc3 x >>> 8)
def bc5 (x : Nat) : Nat := bc4 x + (bc4 x >>> 16)
theorem and256 (a b : Nat) {r s : Nat} (hr : r < 256) (hs : s < 256) : (256 * a + r) &&& (256 * b + s) = 256 * (a &&& b) + (r &&& s) := by
  have h3 : r &&& s < 256 := Nat.lt_of_le_of_lt Nat.and_le_left hr
  apply Nat.eq_of_testBit_eq
  intro j
  rw [Nat.testBit_and, show 256 = 2 ^ 8 from rfl, Nat.testBit_two_pow_mul_add a hr, Nat.testBit_two_pow_mul_add b hs, Nat.testBit_two_pow_mul_add _ h3]
  by_cases h : j < 8
  · rw [if_pos h, if_pos h, if_pos h, Nat.testBit_and]
  · rw [if_neg h, if_neg h, if_neg h, Nat.testBit_and]
def g2 (y : Nat) : Nat := (y &&& 858993459) + ((y >>> 2) &&& 858993459)
def g3 (y : Nat) : Nat := (y + (y >>> 4)) &&& 252645135
theorem bd1 : ∀ h, h < 256 → (h / 2) &&& 5592405 = (h >>> 1) &&& 1431655765 := by decide +kernel
theorem bd2 : ∀ b, b < 2 → ∀ l, l < 256 → (128 * b + l / 2) &&& 85 = (l >>> 1) &&& 1431655765 := by decide +kernel
theorem bd3 : ∀ h, h < 256 → h &&& 3355443 = h &&& 858993459 := by decide +kernel
theorem bd4 : ∀ h, h < 256 → h &&& 51 = h &&& 858993459 := by decide +kernel
theorem bd5 : ∀ h, h < 256 → (h / 4) &&& 3355443 = (h >>> 2) &&& 858993459 := by decide +kernel
theorem bd6 : ∀ b, b < 4 → ∀ l, l < 256 → (64 * b + l / 4) &&& 51 = (l >>> 2) &&& 858993459 := by decide +kernel
theorem bd7 : ∀ h, h < 256 → bc1 h < 256 ∧ g2 (bc1 h) ≤ 68 ∧ g2 (bc1 h) % 16 ≤ 4 ∧ g3 (g2 (bc1 h)) = pcn h ∧ pcn h ≤ 8 := by decide +kernel
theorem bd8 : ∀ h, h < 69 → (h + h / 16) &&& 986895 = g3 h := by decide +kernel
theorem bd9 : ∀ b, b < 5 → ∀ l, l < 69 → (l + l / 16 + 16 * b) &&& 15 = g3 l := by decide +kernel
theorem bs1 {h l : Nat} (hh : h < 256) (hl : l < 256) : bc1 (256 * h + l) = 256 * bc1 h + bc1 l := by
  have e1 : (256 * h + l) >>> 1 = 256 * (h / 2) + (128 * (h % 2) + l / 2) := by
    rw [Nat.shiftRight_eq_div_pow]; omega
  have e2 : ((256 * h + l) >>> 1) &&& 1431655765 = 256 * ((h >>> 1) &&& 1431655765) + ((l >>> 1) &&& 1431655765) := by
    rw [e1, show 1431655765 = 256 * 5592405 + 85 from rfl, and256 _ _ (by omega) (by decide)]
    rw [bd1 h hh, bd2 (h % 2) (by omega) l hl]
  have h1 : (h >>> 1) &&& 1431655765 ≤ h := Nat.le_trans Nat.and_le_left (by rw [Nat.shiftRight_eq_div_pow]; omega)
  have h2 : (l >>> 1) &&& 1431655765 ≤ l := Nat.le_trans Nat.and_le_left (by rw [Nat.shiftRight_eq_div_pow]; omega)
  unfold bc1
  rw [e2]
  omega
theorem bs2 {u v : Nat} (hu : u < 256) (hv : v < 256) : g2 (256 * u + v) = 256 * g2 u + g2 v := by
  have e1 : (256 * u + v) >>> 2 = 256 * (u / 4) + (64 * (u % 4) + v / 4) := by
    rw [Nat.shiftRight_eq_div_pow]; omega
  have e2 : ((256 * u + v) >>> 2) &&& 858993459 = 256 * ((u >>> 2) &&& 858993459) + ((v >>> 2) &&& 858993459) := by
    rw [e1, show 858993459 = 256 * 3355443 + 51 from rfl, and256 _ _ (by omega) (by decide), bd5 u hu, bd6 (u % 4) (by omega) v hv]
  have e3 : (256 * u + v) &&& 858993459 = 256 * (u &&& 858993459) + (v &&& 858993459) := by
    rw [← bd3 u hu, ← bd4 v hv]
    rw [show 858993459 = 256 * 3355443 + 51 from rfl, and256 _ _ hv (by decide)]
  unfold g2
  rw [e2, e3]
  omega
theorem bs3 {u v : Nat} (hu : u ≤ 68) (hu2 : u % 16 ≤ 4) (hv : v ≤ 68) : g3 (256 * u + v) = 256 * g3 u + g3 v := by
  have e1 : 256 * u + v + (256 * u + v) >>> 4 = 256 * (u + u / 16) + (v + v / 16 + 16 * (u % 16)) := by
    rw [Nat.shiftRight_eq_div_pow]; omega
  show (256 * u + v + (256 * u + v) >>> 4) &&& 252645135 = _
  rw [e1, show 252645135 = 256 * 986895 + 15 from rfl, and256 _ _ (by omega) (by decide), bd8 u (by omega), bd9 (u % 16) (by omega) v (by omega)]
theorem cnt_split (p : Nat → Bool) (m : Nat) : ∀ n, cnt p (m + n) = cnt p m + cnt (fun k => p (m + k)) n
  | 0 => rfl
  | n + 1 => by rw [← Nat.add_assoc, cnt_s, cnt_s, cnt_split p m n, Nat.add_assoc]
theorem pcn_8 {x : Nat} (h : x < 256) : pcn x = cnt (fun k => x.testBit k) 8 := by
  show cnt _ (8 + 8) = _
  rw [cnt_split, cnt_0 (p := fun k => x.testBit (8 + k)), Nat.add_zero]
  intro k hk
  exact Nat.testBit_lt_two_pow (Nat.lt_of_lt_of_le h (Nat.pow_le_pow_right (n := 2) (i := 8) (by decide) (by omega)))
theorem pcn_256 {h l : Nat} (hh : h < 256) (hl : l < 256) : pcn (256 * h + l) = pcn h + pcn l := by
  rw [pcn_8 hh, pcn_8 hl]
  show cnt _ (8 + 8) = _
  rw [cnt_split, Nat.add_comm]
  congr 1
  · refine cnt_cong (fun k hk => ?_)
    rw [show 256 = 2 ^ 8 from rfl, Nat.testBit_two_pow_mul_add h hl, if_neg (by omega)]
    congr 1
    omega
  · refine cnt_cong (fun k hk => ?_)
    rw [show 256 = 2 ^ 8 from rfl, Nat.testBit_two_pow_mul_add h hl, if_pos hk]
theorem bc_ok : ∀ x, x < 65536 → bc5 x &&& 63 = pcn x := by
  intro x hx
  have ex : x = 256 * (x / 256) + x % 256 := by omega
  have hh : x / 256 < 256 := by omega
  have hl : x % 256 < 256 := by omega
  generalize x / 256 = h at ex hh
  generalize x % 256 = l at ex hl
  subst ex
  obtain ⟨a1, a2, a3, a4, a5⟩ := bd7 h hh
  obtain ⟨b1, b2, b3, b4, b5⟩ := bd7 l hl
  have e3 : bc3 (256 * h + l) = 256 * pcn h + pcn l := by
    show g3 (g2 (bc1 (256 * h + l))) = _
    rw [bs1 hh hl, bs2 a1 b1, bs3 a2 a3 b2, a4, b4]
  have e4 : bc4 (256 * h + l) = 256 * pcn h + pcn l + pcn h := by
    unfold bc4
    rw [e3, Nat.shiftRight_eq_div_pow]
    omega
  have e5 : bc5 (256 * h + l) = 256 * pcn h + pcn l + pcn h := by
    unfold bc5
    rw [e4, Nat.shiftRight_eq_div_pow]
    omega
  rw [e5, show 63 = 2 ^ 6 - 1 from rfl, Nat.and_two_pow_sub_one_eq_mod, pcn_256 hh hl]
  omega
theorem shr_le (a k : Nat) : a >>> k ≤ a := by rw [Nat.shiftRight_eq_div_pow]; exact Nat.div_le_self _ _
theorem bc1_le (x : Nat) : bc1 x ≤ x := Nat.sub_le _ _
theorem bc2_le (x : Nat) : bc2 x ≤ 2 * x := by
  have h1 := bc1_le x
  have h2 := @Nat.and_le_left (bc1 x) 858993459
  have h3 := @Nat.and_le_left (bc1 x >>> 2) 858993459
  have h4 := shr_le (bc1 x) 2
  unfold bc2
  omega
theorem bc3_le (x : Nat) : bc3 x ≤ 4 * x := by
  have h1 := bc2_le x
  have h2 := @Nat.and_le_left (bc2 x + (bc2 x >>> 4)) 252645135
  have h4 := shr_le (bc2 x) 4
  unfold bc3
  omega
theorem bc4_le (x : Nat) : bc4 x ≤ 8 * x := by
  have h1 := bc3_le x
  have h4 := shr_le (bc3 x) 8
  unfold bc4
  omega
theorem rk_seen {n : Nat} {c : Nat → Nat} (h : CB n c) (y k : Nat) : os (fun x => 1 <<< tm n c x y) k < 2 ^ 2 ^ n := os_lt (fun i _ => shl1_lt (tm_lt h i y))
theorem p16 {n : Nat} (h : 2 ^ n ≤ 16) : 2 ^ 2 ^ n ≤ 65536 := Nat.le_trans (pw2 h) (by decide)
theorem tmi_y {c : Nat → Nat} {X Y i j : Nat} (h : (X.testBit i && Y.testBit j) = true) : xs (fun j => if X.testBit i && Y.testBit j then c (4 * i + j) else 0) (j + 1) = xs (fun j => if X.testBit i && Y.testBit j then c (4 * i + j) else 0) j ^^^ c (4 * i + j) := xs_at (if_pos h)
theorem tmi_n {c : Nat → Nat} {X Y i j : Nat} (h : ¬ (X.testBit i && Y.testBit j) = true) : xs (fun j => if X.testBit i && Y.testBit j then c (4 * i + j) else 0) (j + 1) = xs (fun j => if X.testBit i && Y.testBit j then c (4 * i + j) else 0) j := by
  have e : xs (fun j => if X.testBit i && Y.testBit j then c (4 * i + j) else 0) (j + 1) = xs (fun j => if X.testBit i && Y.testBit j then c (4 * i + j) else 0) j ^^^ 0 := xs_at (if_neg h)
  rw [e, Nat.xor_zero]
theorem pw_s {m q : Nat} (h : ∀ j, j < q → 2 ^ j < m) (hq : 1 <<< q < m) : ∀ j, j < q + 1 → 2 ^ j < m := fun j hj => by
  rcases Nat.lt_succ_iff_lt_or_eq.mp hj with z | z
  · exact h j z
  · rw [z, ← shl1]; exact hq
end
section
set_option maxHeartbeats 4000000 in
set_option maxRecDepth 100000 in
/-- tableIndex(x, y): 16 x + y -/
theorem c_X1_tableIndex (l : Launch) {D : va_G} {tys : List (ClassId × FieldType)} {ad : Nat → Nat} {n : Nat} {E : Nat → va_E} {cI : ClassId} {t0 b nn : Nat} {c0 tt : Nat → Nat} (hI : tys[t0]? = some (cI, .int)) (hbn : b + 2 < n) (hw : isW cI ad E b nn c0 tt) {X Y : Nat} (hX : X < 16) (hY : Y < 16) : Met l yX1_tableIndex wsX1_tableIndex ({ frames := 0, cells := 0, slots := 0, locals := 0 } : Room) (va_Pc [.int (nI (X)), .int (nI (Y))] (PB D tys n ad (E))) (k2_QcV (.int (nI (16 * X + Y)))) 0 0 (fun _ => False) := by
  refine g_pure (cc := cX1_tableIndex) (maxL := 2) (ret := (some .int)) (by decide) rfl (Nat.le_of_ble_eq_true rfl) ?_
  intro p e s m args below meth c hx hb hrt hts hown hlocks hml hP hK ls hl
  show W p l e ({ frames := 0, cells := 0, slots := 0, locals := 0 } : Room) s m args below meth c s.heap [] 0 0 _ _
  have hl : lv_has ls 2 [(0, .int (nI (X))), (1, .int (nI (Y)))] := hl
  refine lv_iload_n hx hb dX1_tableIndex_0 rfl (lv_at hl 0 rfl) ?_
  refine lv_bipush (v := nI 15) hx hb dX1_tableIndex_1 (by decide) ?_
  refine n_iand hx hb dX1_tableIndex_3 ?_
  refine n_iconst 4 hx hb dX1_tableIndex_4 ?_
  refine n_ishl hx hb dX1_tableIndex_5 (by omega) ?_
  refine lv_iload_n hx hb dX1_tableIndex_6 rfl (lv_at hl 1 rfl) ?_
  refine lv_bipush (v := nI 15) hx hb dX1_tableIndex_7 (by decide) ?_
  refine n_iand hx hb dX1_tableIndex_9 ?_
  refine n_ior hx hb dX1_tableIndex_10 ?_
  exact g_iret hx hb hrt hlocks dX1_tableIndex_11 (by rw [ti_eq X hX Y hY])
set_option maxHeartbeats 4000000 in
set_option maxRecDepth 100000 in
/-- cellIndex(i, j): 4 i + j -/
theorem c_X2_cellIndex (l : Launch) {D : va_G} {tys : List (ClassId × FieldType)} {ad : Nat → Nat} {n : Nat} {E : Nat → va_E} {cI : ClassId} {t0 b nn : Nat} {c0 tt : Nat → Nat} (hI : tys[t0]? = some (cI, .int)) (hbn : b + 2 < n) (hw : isW cI ad E b nn c0 tt) {I J : Nat} (hi4 : I < 4) (hj4 : J < 4) : Met l yX2_cellIndex wsX2_cellIndex ({ frames := 0, cells := 0, slots := 0, locals := 0 } : Room) (va_Pc [.int (nI (I)), .int (nI (J))] (PB D tys n ad (E))) (k2_QcV (.int (nI (4 * I + J)))) 0 0 (fun _ => False) := by
  refine g_pure (cc := cX2_cellIndex) (maxL := 2) (ret := (some .int)) (by decide) rfl (Nat.le_of_ble_eq_true rfl) ?_
  intro p e s m args below meth c hx hb hrt hts hown hlocks hml hP hK ls hl
  show W p l e ({ frames := 0, cells := 0, slots := 0, locals := 0 } : Room) s m args below meth c s.heap [] 0 0 _ _
  have hl : lv_has ls 2 [(0, .int (nI (I))), (1, .int (nI (J)))] := hl
  refine lv_iload_n hx hb dX2_cellIndex_0 rfl (lv_at hl 0 rfl) ?_
  refine n_iconst 3 hx hb dX2_cellIndex_1 ?_
  refine n_iand hx hb dX2_cellIndex_2 ?_
  refine n_iconst 2 hx hb dX2_cellIndex_3 ?_
  refine n_ishl hx hb dX2_cellIndex_4 (by omega) ?_
  refine lv_iload_n hx hb dX2_cellIndex_5 rfl (lv_at hl 1 rfl) ?_
  refine n_iconst 3 hx hb dX2_cellIndex_6 ?_
  refine n_iand hx hb dX2_cellIndex_7 ?_
  refine n_ior hx hb dX2_cellIndex_8 ?_
  exact g_iret hx hb hrt hlocks dX2_cellIndex_9 (by rw [ci_eq I hi4 J hj4])
set_option maxHeartbeats 4000000 in
set_option maxRecDepth 100000 in
theorem c_X1_cell (l : Launch) {D : va_G} {tys : List (ClassId × FieldType)} {ad : Nat → Nat} {n : Nat} {E : Nat → va_E} {cI : ClassId} {t0 b nn : Nat} {c0 tt : Nat → Nat} (hI : tys[t0]? = some (cI, .int)) (hbn : b + 2 < n) (hw : isW cI ad E b nn c0 tt) {I J : Nat} (hi4 : I < 4) (hj4 : J < 4) : Met l yX1_cell wsX1_cell ({ frames := 1, cells := 0, slots := 0, locals := 21 } : Room) (va_Pc [.ref (ad (b)), .int (nI (I)), .int (nI (J))] (PB D tys n ad (E))) (k2_QcV (.int (nI (c0 (4 * I + J))))) 0 0 (fun _ => False) := by
  refine g_pure (cc := cX1_cell) (maxL := 3) (ret := (some .int)) (by decide) rfl (Nat.le_of_ble_eq_true rfl) ?_
  intro p e s m args below meth c hx hb hrt hts hown hlocks hml hP hK ls hl
  show W p l e ({ frames := 1, cells := 0, slots := 0, locals := 21 } : Room) s m args below meth c s.heap [] 0 0 _ _
  have hl : lv_has ls 3 [(0, .ref (ad (b))), (1, .int (nI (I))), (2, .int (nI (J)))] := hl
  refine lv_aload_n hx hb dX1_cell_0 rfl (lv_at hl 0 rfl) ?_
  refine g_get (b) 2 (C := RX1) (T := TX1) (N := 4) (ci := 0) (ref := "CubeWorlds$World") hx hb hts (by decide +kernel) hown hK hP (by omega) hw.1 rfl (by decide) (by decide +kernel) rfl rfl dX1_cell_1 ?_
  refine lv_iload_n hx hb dX1_cell_4 rfl (lv_at hl 1 rfl) ?_
  refine lv_iload_n hx hb dX1_cell_5 rfl (lv_at hl 2 rfl) ?_
  refine g_callSN (As := [.int (nI (I)), .int (nI (J))]) (rest := [.ref (ad (b + 1))]) (k := 2) (c_X2_cellIndex l hI hbn hw hi4 hj4) ggX1_cell_X2_cellIndex rfl rfl rfl hK.2 (by decide +kernel) (by decide +kernel) (by decide +kernel) ⟨Nat.le_of_ble_eq_true rfl, Nat.le_of_ble_eq_true rfl⟩ hx hb hml hown hts hK hP  rfl hl.1 rfl (Nat.le_of_ble_eq_true rfl) (Nat.zero_le _) (Nat.zero_le _) dX1_cell_6 ?_
  refine g_iald (b + 1) (4 * I + J) (t0 := _) hx hb hK hP (by omega) hw.2.1 hI (by omega) (by decide) dX1_cell_9 ?_
  exact g_iret hx hb hrt hlocks dX1_cell_10 rfl
set_option maxHeartbeats 4000000 in
set_option maxRecDepth 100000 in
theorem c_X1_times (l : Launch) {D : va_G} {tys : List (ClassId × FieldType)} {ad : Nat → Nat} {n : Nat} {E : Nat → va_E} {cI : ClassId} {t0 b nn : Nat} {c0 tt : Nat → Nat} (hI : tys[t0]? = some (cI, .int)) (hbn : b + 2 < n) (hw : isW cI ad E b nn c0 tt) {X Y : Nat} (ht : tOK nn c0 tt) (hnn : nn ≤ 4) (hX : X < 2 ^ nn) (hY : Y < 2 ^ nn) : Met l yX1_times wsX1_times ({ frames := 1, cells := 0, slots := 0, locals := 21 } : Room) (va_Pc [.ref (ad (b)), .int (nI (X)), .int (nI (Y))] (PB D tys n ad (E))) (k2_QcV (.int (nI (tm nn c0 X Y)))) 0 0 (fun _ => False) := by
  have p4 := pow4 hnn
  refine g_pure (cc := cX1_times) (maxL := 3) (ret := (some .int)) (by decide) rfl (Nat.le_of_ble_eq_true rfl) ?_
  intro p e s m args below meth c hx hb hrt hts hown hlocks hml hP hK ls hl
  show W p l e ({ frames := 1, cells := 0, slots := 0, locals := 21 } : Room) s m args below meth c s.heap [] 0 0 _ _
  have hl : lv_has ls 3 [(0, .ref (ad (b))), (1, .int (nI (X))), (2, .int (nI (Y)))] := hl
  refine lv_aload_n hx hb dX1_times_0 rfl (lv_at hl 0 rfl) ?_
  refine g_get (b) 3 (C := RX1) (T := TX1) (N := 4) (ci := 0) (ref := "CubeWorlds$World") hx hb hts (by decide +kernel) hown hK hP (by omega) hw.1 rfl (by decide) (by decide +kernel) rfl rfl dX1_times_1 ?_
  refine lv_iload_n hx hb dX1_times_4 rfl (lv_at hl 1 rfl) ?_
  refine lv_iload_n hx hb dX1_times_5 rfl (lv_at hl 2 rfl) ?_
  refine g_callS (As := [.int (nI (X)), .int (nI (Y))]) (rest := [.ref (ad (b + 2))]) (c_X1_tableIndex l hI hbn hw (X := X) (Y := Y) (by omega) (by omega)) (va_cwS 2 hts gX1_times_X1_tableIndex rfl rfl rfl (by decide +kernel) ⟨Nat.le_of_ble_eq_true rfl, Nat.le_of_ble_eq_true rfl⟩) hx hb hml hown hts hK hP  rfl hl.1 rfl (Nat.le_of_ble_eq_true rfl) (Nat.zero_le _) (Nat.zero_le _) dX1_times_6 ?_
  refine g_iald (b + 2) (16 * X + Y) (t0 := _) hx hb hK hP (by omega) hw.2.2 hI (by omega) (by decide) dX1_times_9 ?_
  exact g_iret hx hb hrt hlocks dX1_times_10 (by rw [ht X hX Y hY])
set_option maxHeartbeats 4000000 in
set_option maxRecDepth 100000 in
theorem c_X1_sumOfCells (l : Launch) {D : va_G} {tys : List (ClassId × FieldType)} {ad : Nat → Nat} {n : Nat} {E : Nat → va_E} {cI : ClassId} {t0 b nn : Nat} {c0 tt : Nat → Nat} (hI : tys[t0]? = some (cI, .int)) (hbn : b + 2 < n) (hw : isW cI ad E b nn c0 tt) {X Y : Nat} (hnn : nn ≤ 4) (hX : X < 16) (hY : Y < 16) : Met l yX1_sumOfCells wsX1_sumOfCells ({ frames := 2, cells := 0, slots := 0, locals := 43 } : Room) (va_Pc [.ref (ad (b)), .int (nI (X)), .int (nI (Y))] (PB D tys n ad (E))) (k2_QcV (.int (nI (tm nn c0 X Y)))) 0 0 (fun _ => False) := by
  refine g_pure (cc := cX1_sumOfCells) (maxL := 6) (ret := (some .int)) (by decide) rfl (Nat.le_of_ble_eq_true rfl) ?_
  intro p e s m args below meth c hx hb hrt hts hown hlocks hml hP hK ls hl
  show W p l e ({ frames := 2, cells := 0, slots := 0, locals := 43 } : Room) s m args below meth c s.heap [] 0 0 _ _
  have hl : lv_has ls 6 [(0, .ref (ad (b))), (1, .int (nI (X))), (2, .int (nI (Y)))] := hl
  refine n_iconst 0 hx hb dX1_sumOfCells_0 ?_
  refine lv_istore_n (lv' := [(3, .int (nI (0))), (0, .ref (ad (b))), (1, .int (nI (X))), (2, .int (nI (Y)))]) hx hb dX1_sumOfCells_1 rfl hl (by decide) rfl (fun ls hl => ?_)
  refine n_iconst 0 hx hb dX1_sumOfCells_2 ?_
  refine lv_istore (lv' := [(4, .int (nI (0))), (3, .int (nI (0))), (0, .ref (ad (b))), (1, .int (nI (X))), (2, .int (nI (Y)))]) hx hb dX1_sumOfCells_3 hl (by decide) rfl (fun ls hl => ?_)
  have L_5 : ∀ (r : Nat) (i : Nat) (acc : Nat), (i ≤ nn) → (nn < i + r) → (acc = xs (tmi nn c0 X Y) i) → ∀ (ls : Array Slot), lv_has ls 6 [(0, .ref (ad (b))), (1, .int (nI (X))), (2, .int (nI (Y))), (3, .int (nI (acc))), (4, .int (nI (i)))] → W p l e ({ frames := 2, cells := 0, slots := 0, locals := 43 } : Room) s m args below meth c s.heap [] 0 0 (MQ below (k2_QcV (.int (nI (tm nn c0 X Y)))) args s 0 0 (fun _ => False)) (F0 m 5 ls []) := by
    intro r
    induction r with
    | zero => intro i acc hi hr ha; intros; exact absurd hr (by omega)
    | succ r ih =>
      intro i acc hi hr ha ls hl
      have ih_5 := ih
      refine lv_iload hx hb dX1_sumOfCells_5 (lv_at hl 4 rfl) ?_
      refine lv_aload_n hx hb dX1_sumOfCells_7 rfl (lv_at hl 0 rfl) ?_
      refine g_get (b) 0 (C := RX1) (T := TX1) (N := 4) (ci := 0) (ref := "CubeWorlds$World") hx hb hts (by decide +kernel) hown hK hP (by omega) hw.1 rfl (by decide) (by decide +kernel) rfl rfl dX1_sumOfCells_8 ?_
      refine n_ge (tgt := 64) hx hb dX1_sumOfCells_11 (by decide) (by omega) (by omega) (fun h_11 => ?_) (fun h_11 => ?_)
      · refine lv_iload_n hx hb dX1_sumOfCells_64 rfl (lv_at hl 3 rfl) ?_
        exact g_iret hx hb hrt hlocks dX1_sumOfCells_65 (by rw [ha, show i = nn by omega]; rfl)
      · refine n_iconst 0 hx hb dX1_sumOfCells_14 ?_
        refine lv_istore (lv' := [(5, .int (nI (0))), (0, .ref (ad (b))), (1, .int (nI (X))), (2, .int (nI (Y))), (3, .int (nI (acc))), (4, .int (nI (i)))]) hx hb dX1_sumOfCells_15 hl (by decide) rfl (fun ls hl => ?_)
        have L_17 : ∀ (r : Nat) (j : Nat) (acc2 : Nat), (j ≤ nn) → (nn < j + r) → (acc2 = xs (tmi nn c0 X Y) i ^^^ xs (fun j => if X.testBit i && Y.testBit j then c0 (4 * i + j) else 0) j) → ∀ (ls : Array Slot), lv_has ls 6 [(0, .ref (ad (b))), (1, .int (nI (X))), (2, .int (nI (Y))), (3, .int (nI (acc2))), (4, .int (nI (i))), (5, .int (nI (j)))] → W p l e ({ frames := 2, cells := 0, slots := 0, locals := 43 } : Room) s m args below meth c s.heap [] 0 0 (MQ below (k2_QcV (.int (nI (tm nn c0 X Y)))) args s 0 0 (fun _ => False)) (F0 m 17 ls []) := by
          intro r
          induction r with
          | zero => intro j acc2 hj hr2 ha2; intros; exact absurd hr2 (by omega)
          | succ r ih =>
            intro j acc2 hj hr2 ha2 ls hl
            have ih_17 := ih
            refine lv_iload hx hb dX1_sumOfCells_17 (lv_at hl 5 rfl) ?_
            refine lv_aload_n hx hb dX1_sumOfCells_19 rfl (lv_at hl 0 rfl) ?_
            refine g_get (b) 0 (C := RX1) (T := TX1) (N := 4) (ci := 0) (ref := "CubeWorlds$World") hx hb hts (by decide +kernel) hown hK hP (by omega) hw.1 rfl (by decide) (by decide +kernel) rfl rfl dX1_sumOfCells_20 ?_
            refine n_ge (tgt := 58) hx hb dX1_sumOfCells_23 (by decide) (by omega) (by omega) (fun h_23 => ?_) (fun h_23 => ?_)
            · refine n_iinc 4 1 (lv' := [(4, .int (nI (i + 1))), (0, .ref (ad (b))), (1, .int (nI (X))), (2, .int (nI (Y))), (3, .int (nI (acc2))), (5, .int (nI (j)))]) hx hb dX1_sumOfCells_58 hl rfl (by decide) rfl (fun ls hl => ?_)
              refine n_goto 5 hx hb dX1_sumOfCells_61 (by decide) ?_
              exact ih_5 (i + 1) (acc2) (by omega) (by omega) (by rw [ha2, xs_s, show j = nn by omega]; rfl) _ (lv_sub hl [1, 2, 3, 4, 0] rfl)
            · refine lv_iload_n hx hb dX1_sumOfCells_26 rfl (lv_at hl 1 rfl) ?_
              refine lv_iload hx hb dX1_sumOfCells_27 (lv_at hl 4 rfl) ?_
              refine n_ishr hx hb dX1_sumOfCells_29 (by omega) (by omega) ?_
              refine lv_iload_n hx hb dX1_sumOfCells_30 rfl (lv_at hl 2 rfl) ?_
              refine lv_iload hx hb dX1_sumOfCells_31 (lv_at hl 5 rfl) ?_
              refine n_ishr hx hb dX1_sumOfCells_33 (by omega) (by omega) ?_
              refine n_iand hx hb dX1_sumOfCells_34 ?_
              refine n_iconst 1 hx hb dX1_sumOfCells_35 ?_
              refine n_iand hx hb dX1_sumOfCells_36 ?_
              refine n_iconst 1 hx hb dX1_sumOfCells_37 ?_
              refine n_cne (tgt := 52) hx hb dX1_sumOfCells_38 (by decide) (and1_lt _) (by decide) (fun h_38 => ?_) (fun h_38 => ?_)
              · refine n_iinc 5 1 (lv' := [(5, .int (nI (j + 1))), (0, .ref (ad (b))), (1, .int (nI (X))), (2, .int (nI (Y))), (3, .int (nI (acc2))), (4, .int (nI (i)))]) hx hb dX1_sumOfCells_52 hl rfl (by decide) rfl (fun ls hl => ?_)
                refine n_goto 17 hx hb dX1_sumOfCells_55 (by decide) ?_
                exact ih_17 (j + 1) (acc2) (by omega) (by omega) (by rw [ha2, tmi_n (fun z => h_38 ((bit1 X Y i j).mpr z))]) _ (lv_sub hl [1, 2, 3, 4, 5, 0] rfl)
              · refine lv_iload_n hx hb dX1_sumOfCells_41 rfl (lv_at hl 3 rfl) ?_
                refine lv_aload_n hx hb dX1_sumOfCells_42 rfl (lv_at hl 0 rfl) ?_
                refine lv_iload hx hb dX1_sumOfCells_43 (lv_at hl 4 rfl) ?_
                refine lv_iload hx hb dX1_sumOfCells_45 (lv_at hl 5 rfl) ?_
                refine g_callV (b) (C := RX1) (T := TX1) (N := 4) (ci := 0) (As := [.int (nI (i)), .int (nI (j))]) (rest := [.int (nI (acc2))]) (c_X1_cell l hI hbn hw (I := i) (J := j) (by omega) (by omega)) (cwV 2 hts gX1_sumOfCells_X1_cell rfl rfl rfl (by decide +kernel) ⟨Nat.le_of_ble_eq_true rfl, Nat.le_of_ble_eq_true rfl⟩) hx hb hml hown hts hK hP  (by omega) hw.1 rfl rfl hl.1 rfl (Nat.le_of_ble_eq_true rfl) (Nat.zero_le _) (Nat.zero_le _) dX1_sumOfCells_47 ?_
                refine n_ixor hx hb dX1_sumOfCells_50 ?_
                refine lv_istore_n (lv' := [(3, .int (nI (acc2 ^^^ (c0 (4 * i + j))))), (0, .ref (ad (b))), (1, .int (nI (X))), (2, .int (nI (Y))), (4, .int (nI (i))), (5, .int (nI (j)))]) hx hb dX1_sumOfCells_51 rfl hl (by decide) rfl (fun ls hl => ?_)
                refine n_iinc 5 1 (lv' := [(5, .int (nI (j + 1))), (3, .int (nI (acc2 ^^^ (c0 (4 * i + j))))), (0, .ref (ad (b))), (1, .int (nI (X))), (2, .int (nI (Y))), (4, .int (nI (i)))]) hx hb dX1_sumOfCells_52 hl rfl (by decide) rfl (fun ls hl => ?_)
                refine n_goto 17 hx hb dX1_sumOfCells_55 (by decide) ?_
                exact ih_17 (j + 1) (acc2 ^^^ (c0 (4 * i + j))) (by omega) (by omega) (by rw [ha2, tmi_y ((bit1 X Y i j).mp h_38), Nat.xor_assoc]) _ (lv_sub hl [2, 3, 4, 1, 5, 0] rfl)
        exact L_17 (nn + 1) (0) (acc) (Nat.zero_le _) (by omega) (by rw [ha]; exact (Nat.xor_zero _).symm) _ (lv_sub hl [1, 2, 3, 4, 5, 0] rfl)
  exact L_5 (nn + 1) (0) (0) (Nat.zero_le _) (by omega) rfl _ (lv_sub hl [2, 3, 4, 1, 0] rfl)
set_option maxHeartbeats 4000000 in
set_option maxRecDepth 100000 in
theorem c_X1_bits (l : Launch) {D : va_G} {tys : List (ClassId × FieldType)} {ad : Nat → Nat} {n : Nat} {E : Nat → va_E} {cI : ClassId} {t0 b nn : Nat} {c0 tt : Nat → Nat} (hI : tys[t0]? = some (cI, .int)) (hbn : b + 2 < n) (hw : isW cI ad E b nn c0 tt) : Met l yX1_bits wsX1_bits ({ frames := 0, cells := 0, slots := 0, locals := 0 } : Room) (va_Pc [.ref (ad (b))] (PB D tys n ad (E))) (k2_QcV (.int (nI (nn)))) 0 0 (fun _ => False) := by
  refine g_pure (cc := cX1_bits) (maxL := 1) (ret := (some .int)) (by decide) rfl (Nat.le_of_ble_eq_true rfl) ?_
  intro p e s m args below meth c hx hb hrt hts hown hlocks hml hP hK ls hl
  show W p l e ({ frames := 0, cells := 0, slots := 0, locals := 0 } : Room) s m args below meth c s.heap [] 0 0 _ _
  have hl : lv_has ls 1 [(0, .ref (ad (b)))] := hl
  refine lv_aload_n hx hb dX1_bits_0 rfl (lv_at hl 0 rfl) ?_
  refine g_get (b) 0 (C := RX1) (T := TX1) (N := 4) (ci := 0) (ref := "CubeWorlds$World") hx hb hts (by decide +kernel) hown hK hP (by omega) hw.1 rfl (by decide) (by decide +kernel) rfl rfl dX1_bits_1 ?_
  exact g_iret hx hb hrt hlocks dX1_bits_4 rfl
set_option maxHeartbeats 4000000 in
set_option maxRecDepth 100000 in
theorem c_X1_size (l : Launch) {D : va_G} {tys : List (ClassId × FieldType)} {ad : Nat → Nat} {n : Nat} {E : Nat → va_E} {cI : ClassId} {t0 b nn : Nat} {c0 tt : Nat → Nat} (hI : tys[t0]? = some (cI, .int)) (hbn : b + 2 < n) (hw : isW cI ad E b nn c0 tt) : Met l yX1_size wsX1_size ({ frames := 0, cells := 0, slots := 0, locals := 0 } : Room) (va_Pc [.ref (ad (b))] (PB D tys n ad (E))) (k2_QcV (.int (nI (2 ^ nn)))) 0 0 (fun _ => False) := by
  refine g_pure (cc := cX1_size) (maxL := 1) (ret := (some .int)) (by decide) rfl (Nat.le_of_ble_eq_true rfl) ?_
  intro p e s m args below meth c hx hb hrt hts hown hlocks hml hP hK ls hl
  show W p l e ({ frames := 0, cells := 0, slots := 0, locals := 0 } : Room) s m args below meth c s.heap [] 0 0 _ _
  have hl : lv_has ls 1 [(0, .ref (ad (b)))] := hl
  refine lv_aload_n hx hb dX1_size_0 rfl (lv_at hl 0 rfl) ?_
  refine g_get (b) 1 (C := RX1) (T := TX1) (N := 4) (ci := 0) (ref := "CubeWorlds$World") hx hb hts (by decide +kernel) hown hK hP (by omega) hw.1 rfl (by decide) (by decide +kernel) rfl rfl dX1_size_1 ?_
  exact g_iret hx hb hrt hlocks dX1_size_4 rfl
set_option maxHeartbeats 4000000 in
set_option maxRecDepth 100000 in
theorem c_X1_has (l : Launch) {D : va_G} {tys : List (ClassId × FieldType)} {ad : Nat → Nat} {n : Nat} {E : Nat → va_E} {cI : ClassId} {t0 b nn : Nat} {c0 tt : Nat → Nat} (hI : tys[t0]? = some (cI, .int)) (hbn : b + 2 < n) (hw : isW cI ad E b nn c0 tt) {x : Int32} (hnn : nn ≤ 4) (h1n : 1 ≤ nn) : Met l yX1_has wsX1_has ({ frames := 0, cells := 0, slots := 0, locals := 0 } : Room) (va_Pc [.ref (ad (b)), .int (x)] (PB D tys n ad (E))) (k2_QcV (.int (bI (rB 0 (2 ^ nn - 1) x)))) 0 0 (fun _ => False) := by
  have p4 := pow4 hnn
  have p0 : 0 < 2 ^ nn := Nat.pow_pos (by decide)
  refine g_pure (cc := cX1_has) (maxL := 2) (ret := (some .boolean)) (by decide) rfl (Nat.le_of_ble_eq_true rfl) ?_
  intro p e s m args below meth c hx hb hrt hts hown hlocks hml hP hK ls hl
  show W p l e ({ frames := 0, cells := 0, slots := 0, locals := 0 } : Room) s m args below meth c s.heap [] 0 0 _ _
  have hl : lv_has ls 2 [(0, .ref (ad (b))), (1, .int (x))] := hl
  refine lv_iload_n hx hb dX1_has_0 rfl (lv_at hl 1 rfl) ?_
  refine lv_if_lt (tgt := 16) hx hb dX1_has_1 (by decide) (fun h_1 => ?_) (fun h_1 => ?_)
  · refine n_iconst 0 hx hb dX1_has_16 ?_
    exact g_zret (false) hx hb hrt hlocks dX1_has_17 rfl (by rw [rB_0 (by omega) (by omega)]; exact congrArg (fun b => Value.int (bI b)) (decide_eq_false (fun z => z.1 h_1)))
  · refine lv_iload_n hx hb dX1_has_4 rfl (lv_at hl 1 rfl) ?_
    refine lv_aload_n hx hb dX1_has_5 rfl (lv_at hl 0 rfl) ?_
    refine g_get (b) 1 (C := RX1) (T := TX1) (N := 4) (ci := 0) (ref := "CubeWorlds$World") hx hb hts (by decide +kernel) hown hK hP (by omega) hw.1 rfl (by decide) (by decide +kernel) rfl rfl dX1_has_6 ?_
    refine lv_icmp_ge (tgt := 16) hx hb dX1_has_9 (by decide) (fun h_9 => ?_) (fun h_9 => ?_)
    · refine n_iconst 0 hx hb dX1_has_16 ?_
      exact g_zret (false) hx hb hrt hlocks dX1_has_17 rfl (by rw [rB_0 (by omega) (by omega)]; exact congrArg (fun b => Value.int (bI b)) (decide_eq_false (fun z => z.2 h_9)))
    · refine n_iconst 1 hx hb dX1_has_12 ?_
      refine n_goto 17 hx hb dX1_has_13 (by decide) ?_
      exact g_zret (true) hx hb hrt hlocks dX1_has_17 rfl (by rw [rB_0 (by omega) (by omega)]; exact congrArg (fun b => Value.int (bI b)) (decide_eq_true ⟨h_1, h_9⟩))
set_option maxHeartbeats 4000000 in
set_option maxRecDepth 100000 in
theorem c_X1_hasBit (l : Launch) {D : va_G} {tys : List (ClassId × FieldType)} {ad : Nat → Nat} {n : Nat} {E : Nat → va_E} {cI : ClassId} {t0 b nn : Nat} {c0 tt : Nat → Nat} (hI : tys[t0]? = some (cI, .int)) (hbn : b + 2 < n) (hw : isW cI ad E b nn c0 tt) {x : Int32} (hnn : nn ≤ 4) (h1n : 1 ≤ nn) : Met l yX1_hasBit wsX1_hasBit ({ frames := 0, cells := 0, slots := 0, locals := 0 } : Room) (va_Pc [.ref (ad (b)), .int (x)] (PB D tys n ad (E))) (k2_QcV (.int (bI (rB 0 (nn - 1) x)))) 0 0 (fun _ => False) := by
  have p4 := pow4 hnn
  have p0 : 0 < 2 ^ nn := Nat.pow_pos (by decide)
  refine g_pure (cc := cX1_hasBit) (maxL := 2) (ret := (some .boolean)) (by decide) rfl (Nat.le_of_ble_eq_true rfl) ?_
  intro p e s m args below meth c hx hb hrt hts hown hlocks hml hP hK ls hl
  show W p l e ({ frames := 0, cells := 0, slots := 0, locals := 0 } : Room) s m args below meth c s.heap [] 0 0 _ _
  have hl : lv_has ls 2 [(0, .ref (ad (b))), (1, .int (x))] := hl
  refine lv_iload_n hx hb dX1_hasBit_0 rfl (lv_at hl 1 rfl) ?_
  refine lv_if_lt (tgt := 16) hx hb dX1_hasBit_1 (by decide) (fun h_1 => ?_) (fun h_1 => ?_)
  · refine n_iconst 0 hx hb dX1_hasBit_16 ?_
    exact g_zret (false) hx hb hrt hlocks dX1_hasBit_17 rfl (by rw [rB_0 (by omega) (by omega)]; exact congrArg (fun b => Value.int (bI b)) (decide_eq_false (fun z => z.1 h_1)))
  · refine lv_iload_n hx hb dX1_hasBit_4 rfl (lv_at hl 1 rfl) ?_
    refine lv_aload_n hx hb dX1_hasBit_5 rfl (lv_at hl 0 rfl) ?_
    refine g_get (b) 0 (C := RX1) (T := TX1) (N := 4) (ci := 0) (ref := "CubeWorlds$World") hx hb hts (by decide +kernel) hown hK hP (by omega) hw.1 rfl (by decide) (by decide +kernel) rfl rfl dX1_hasBit_6 ?_
    refine lv_icmp_ge (tgt := 16) hx hb dX1_hasBit_9 (by decide) (fun h_9 => ?_) (fun h_9 => ?_)
    · refine n_iconst 0 hx hb dX1_hasBit_16 ?_
      exact g_zret (false) hx hb hrt hlocks dX1_hasBit_17 rfl (by rw [rB_0 (by omega) (by omega)]; exact congrArg (fun b => Value.int (bI b)) (decide_eq_false (fun z => z.2 h_9)))
    · refine n_iconst 1 hx hb dX1_hasBit_12 ?_
      refine n_goto 17 hx hb dX1_hasBit_13 (by decide) ?_
      exact g_zret (true) hx hb hrt hlocks dX1_hasBit_17 rfl (by rw [rB_0 (by omega) (by omega)]; exact congrArg (fun b => Value.int (bI b)) (decide_eq_true ⟨h_1, h_9⟩))
set_option maxHeartbeats 4000000 in
set_option maxRecDepth 100000 in
theorem c_X1_cubeBit (l : Launch) {D : va_G} {tys : List (ClassId × FieldType)} {ad : Nat → Nat} {n : Nat} {E : Nat → va_E} {cI : ClassId} {t0 b nn : Nat} {c0 tt : Nat → Nat} (hI : tys[t0]? = some (cI, .int)) (hbn : b + 2 < n) (hw : isW cI ad E b nn c0 tt) {I J K : Nat} (hnn : nn ≤ 4) (hcb : CB nn c0) (hi4 : I < nn) (hj4 : J < nn) (hk4 : K < nn) : Met l yX1_cubeBit wsX1_cubeBit ({ frames := 2, cells := 0, slots := 0, locals := 43 } : Room) (va_Pc [.ref (ad (b)), .int (nI (I)), .int (nI (J)), .int (nI (K))] (PB D tys n ad (E))) (k2_QcV (.int (nI ((c0 (4 * I + J) >>> K) &&& 1)))) 0 0 (fun _ => False) := by
  have p4 := pow4 hnn
  have p0 : 0 < 2 ^ nn := Nat.pow_pos (by decide)
  have hc9 := hcb I hi4 J hj4
  refine g_pure (cc := cX1_cubeBit) (maxL := 4) (ret := (some .int)) (by decide) rfl (Nat.le_of_ble_eq_true rfl) ?_
  intro p e s m args below meth c hx hb hrt hts hown hlocks hml hP hK ls hl
  show W p l e ({ frames := 2, cells := 0, slots := 0, locals := 43 } : Room) s m args below meth c s.heap [] 0 0 _ _
  have hl : lv_has ls 4 [(0, .ref (ad (b))), (1, .int (nI (I))), (2, .int (nI (J))), (3, .int (nI (K)))] := hl
  refine lv_aload_n hx hb dX1_cubeBit_0 rfl (lv_at hl 0 rfl) ?_
  refine lv_iload_n hx hb dX1_cubeBit_1 rfl (lv_at hl 1 rfl) ?_
  refine lv_iload_n hx hb dX1_cubeBit_2 rfl (lv_at hl 2 rfl) ?_
  refine g_callV (b) (C := RX1) (T := TX1) (N := 4) (ci := 0) (As := [.int (nI (I)), .int (nI (J))]) (rest := []) (c_X1_cell l hI hbn hw (I := I) (J := J) (by omega) (by omega)) (cwV 2 hts gX1_cubeBit_X1_cell rfl rfl rfl (by decide +kernel) ⟨Nat.le_of_ble_eq_true rfl, Nat.le_of_ble_eq_true rfl⟩) hx hb hml hown hts hK hP  (by omega) hw.1 rfl rfl hl.1 rfl (Nat.le_of_ble_eq_true rfl) (Nat.zero_le _) (Nat.zero_le _) dX1_cubeBit_3 ?_
  refine lv_iload_n hx hb dX1_cubeBit_6 rfl (lv_at hl 3 rfl) ?_
  refine n_ishr hx hb dX1_cubeBit_7 (by omega) (by omega) ?_
  refine n_iconst 1 hx hb dX1_cubeBit_8 ?_
  refine n_iand hx hb dX1_cubeBit_9 ?_
  exact g_iret hx hb hrt hlocks dX1_cubeBit_10 rfl
set_option maxHeartbeats 4000000 in
set_option maxRecDepth 100000 in
theorem c_X1_fillTable (l : Launch) {D : va_G} {tys : List (ClassId × FieldType)} {A : Nat → Prop} {ad : Nat → Nat} {n : Nat} {E : Nat → va_E} {cI : ClassId} {t0 b nn : Nat} {c0 tt : Nat → Nat} (hI : tys[t0]? = some (cI, .int)) (hbn : b + 2 < n) (hw : isW cI ad E b nn c0 tt) (hnn : nn ≤ 4) : Met l yX1_fillTable wsX1_fillTable ({ frames := 3, cells := 0, slots := 0, locals := 68 } : Room) (va_Pc [.ref (ad (b))] (PW D tys A n ad (E))) (QW none (PW D tys A n ad (va_up E (b + 2) (.inl (cI, 256, .inl (nF (pf nn c0 tt (2 ^ nn) 0)))))) A) 0 0 A := by
  have p4 := pow4 hnn
  have p0 : 0 < 2 ^ nn := Nat.pow_pos (by decide)
  refine g_writes (cc := cX1_fillTable) (maxL := 3) (ret := none) (by decide) rfl (Nat.le_of_ble_eq_true rfl) ?_
  intro p e s m args below meth c hx hb hrt hts hown hlocks hml hP hK hD hS ls hl
  show W p l e ({ frames := 3, cells := 0, slots := 0, locals := 68 } : Room) s m args below meth c s.heap [] 0 0 _ _
  have hl : lv_has ls 3 [(0, .ref (ad (b)))] := hl
  rw [show E = va_up E (b + 2) (.inl (cI, 256, .inl (nF (pf nn c0 tt 0 0)))) from by rw [pf_00, va_up_same hw.2.2]] at hP
  refine n_iconst 0 hx hb dX1_fillTable_0 ?_
  refine lv_istore_n (lv' := [(1, .int (nI (0))), (0, .ref (ad (b)))]) hx hb dX1_fillTable_1 rfl hl (by decide) rfl (fun ls hl => ?_)
  have L_2 : ∀ (r : Nat) (i : Nat), (i ≤ 2 ^ nn) → (2 ^ nn < i + r) → ∀ (H : Heap) (locs : List Loc), va_P D vwCl (pic n ad (va_up E (b + 2) (.inl (cI, 256, .inl (nF (pf nn c0 tt i 0)))))) H → va_S A s.heap H locs → ∀ (ls : Array Slot), lv_has ls 3 [(0, .ref (ad (b))), (1, .int (nI (i)))] → W p l e ({ frames := 3, cells := 0, slots := 0, locals := 68 } : Room) s m args below meth c H locs 0 0 (MQ below (QW none (PW D tys A n ad (va_up E (b + 2) (.inl (cI, 256, .inl (nF (pf nn c0 tt (2 ^ nn) 0)))))) A) args s 0 0 A) (F0 m 2 ls []) := by
    intro r
    induction r with
    | zero => intro i hi hr; intros; exact absurd hr (by omega)
    | succ r ih =>
      intro i hi hr H locs hP hS ls hl
      have ih_2 := ih
      refine lv_iload_n hx hb dX1_fillTable_2 rfl (lv_at hl 1 rfl) ?_
      refine lv_aload_n hx hb dX1_fillTable_3 rfl (lv_at hl 0 rfl) ?_
      refine g_get (b) 1 (C := RX1) (T := TX1) (N := 4) (ci := 0) (ref := "CubeWorlds$World") hx hb hts (by decide +kernel) hown hK hP (by omega) (hw.up2 _).1 rfl (by decide) (by decide +kernel) rfl rfl dX1_fillTable_4 ?_
      refine n_ge (tgt := 48) hx hb dX1_fillTable_7 (by decide) (by omega) (by omega) (fun h_7 => ?_) (fun h_7 => ?_)
      · rw [show i = 2 ^ nn by omega] at hP
        exact g_vretW hx hb hrt hlocks hK hP (pic_D _ hD) hS dX1_fillTable_48
      · refine n_iconst 0 hx hb dX1_fillTable_10 ?_
        refine lv_istore_n (lv' := [(2, .int (nI (0))), (0, .ref (ad (b))), (1, .int (nI (i)))]) hx hb dX1_fillTable_11 rfl hl (by decide) rfl (fun ls hl => ?_)
        have L_12 : ∀ (r : Nat) (j : Nat), (j ≤ 2 ^ nn) → (2 ^ nn < j + r) → ∀ (H : Heap) (locs : List Loc), va_P D vwCl (pic n ad (va_up E (b + 2) (.inl (cI, 256, .inl (nF (pf nn c0 tt i j)))))) H → va_S A s.heap H locs → ∀ (ls : Array Slot), lv_has ls 3 [(0, .ref (ad (b))), (1, .int (nI (i))), (2, .int (nI (j)))] → W p l e ({ frames := 3, cells := 0, slots := 0, locals := 68 } : Room) s m args below meth c H locs 0 0 (MQ below (QW none (PW D tys A n ad (va_up E (b + 2) (.inl (cI, 256, .inl (nF (pf nn c0 tt (2 ^ nn) 0)))))) A) args s 0 0 A) (F0 m 12 ls []) := by
          intro r
          induction r with
          | zero => intro j hj hr2; intros; exact absurd hr2 (by omega)
          | succ r ih =>
            intro j hj hr2 H locs hP hS ls hl
            have ih_12 := ih
            refine lv_iload_n hx hb dX1_fillTable_12 rfl (lv_at hl 2 rfl) ?_
            refine lv_aload_n hx hb dX1_fillTable_13 rfl (lv_at hl 0 rfl) ?_
            refine g_get (b) 1 (C := RX1) (T := TX1) (N := 4) (ci := 0) (ref := "CubeWorlds$World") hx hb hts (by decide +kernel) hown hK hP (by omega) (hw.up2 _).1 rfl (by decide) (by decide +kernel) rfl rfl dX1_fillTable_14 ?_
            refine n_ge (tgt := 42) hx hb dX1_fillTable_17 (by decide) (by omega) (by omega) (fun h_17 => ?_) (fun h_17 => ?_)
            · rw [show j = 2 ^ nn by omega, pf_row p4] at hP
              refine n_iinc 1 1 (lv' := [(1, .int (nI (i + 1))), (0, .ref (ad (b))), (2, .int (nI (j)))]) hx hb dX1_fillTable_42 hl rfl (by decide) rfl (fun ls hl => ?_)
              refine n_goto 2 hx hb dX1_fillTable_45 (by decide) ?_
              exact ih_2 (i + 1) (by omega) (by omega) _ _ hP hS _ (lv_sub hl [1, 0] rfl)
            · refine lv_aload_n hx hb dX1_fillTable_20 rfl (lv_at hl 0 rfl) ?_
              refine g_get (b) 3 (C := RX1) (T := TX1) (N := 4) (ci := 0) (ref := "CubeWorlds$World") hx hb hts (by decide +kernel) hown hK hP (by omega) (hw.up2 _).1 rfl (by decide) (by decide +kernel) rfl rfl dX1_fillTable_21 ?_
              refine lv_iload_n hx hb dX1_fillTable_24 rfl (lv_at hl 1 rfl) ?_
              refine lv_iload_n hx hb dX1_fillTable_25 rfl (lv_at hl 2 rfl) ?_
              refine g_callS (As := [.int (nI (i)), .int (nI (j))]) (rest := [.ref (ad (b + 2))]) (c_X1_tableIndex l hI hbn (hw.up2 _) (X := i) (Y := j) (by omega) (by omega)) (va_cwS 2 hts gX1_fillTable_X1_tableIndex rfl rfl rfl (by decide +kernel) ⟨Nat.le_of_ble_eq_true rfl, Nat.le_of_ble_eq_true rfl⟩) hx hb hml hown hts hK hP  rfl hl.1 rfl (Nat.le_of_ble_eq_true rfl) (Nat.zero_le _) (Nat.zero_le _) dX1_fillTable_26 ?_
              refine lv_aload_n hx hb dX1_fillTable_29 rfl (lv_at hl 0 rfl) ?_
              refine lv_iload_n hx hb dX1_fillTable_30 rfl (lv_at hl 1 rfl) ?_
              refine lv_iload_n hx hb dX1_fillTable_31 rfl (lv_at hl 2 rfl) ?_
              refine g_callV (b) (C := RX1) (T := TX1) (N := 4) (ci := 0) (As := [.int (nI (i)), .int (nI (j))]) (rest := [.int (nI (16 * i + j)), .ref (ad (b + 2))]) (c_X1_sumOfCells l hI hbn (hw.up2 _) (X := i) (Y := j) hnn (by omega) (by omega)) (cwV 2 hts gX1_fillTable_X1_sumOfCells rfl rfl rfl (by decide +kernel) ⟨Nat.le_of_ble_eq_true rfl, Nat.le_of_ble_eq_true rfl⟩) hx hb hml hown hts hK hP  (by omega) (hw.up2 _).1 rfl rfl hl.1 rfl (Nat.le_of_ble_eq_true rfl) (Nat.zero_le _) (Nat.zero_le _) dX1_fillTable_32 ?_
              refine g_iast (b + 2) (16 * i + j) (tm nn c0 i j) hx hb hK hP (pic_D _ hD) hS (by omega) (hw.up2 _).2.2 hI (by omega) (by decide) dX1_fillTable_35 (fun H locs hP hS => ?_)
              rw [va_up_up, pf_put (by omega) (by omega) p4] at hP
              refine n_iinc 2 1 (lv' := [(2, .int (nI (j + 1))), (0, .ref (ad (b))), (1, .int (nI (i)))]) hx hb dX1_fillTable_36 hl rfl (by decide) rfl (fun ls hl => ?_)
              refine n_goto 12 hx hb dX1_fillTable_39 (by decide) ?_
              exact ih_12 (j + 1) (by omega) (by omega) _ _ hP hS _ (lv_sub hl [1, 2, 0] rfl)
        exact L_12 (2 ^ nn + 1) (0) (Nat.zero_le _) (by omega) _ _ hP hS _ (lv_sub hl [1, 2, 0] rfl)
  exact L_2 (2 ^ nn + 1) (0) (Nat.zero_le _) (by omega) _ _ hP hS _ (lv_sub hl [1, 0] rfl)
set_option maxHeartbeats 4000000 in
set_option maxRecDepth 100000 in
theorem c_X1_changeCell (l : Launch) {D : va_G} {tys : List (ClassId × FieldType)} {A : Nat → Prop} {ad : Nat → Nat} {n : Nat} {E : Nat → va_E} {cI : ClassId} {t0 b nn : Nat} {c0 tt : Nat → Nat} (hI : tys[t0]? = some (cI, .int)) (hbn : b + 2 < n) (hw : isW cI ad E b nn c0 tt) {I J V : Nat} (hnn : nn ≤ 4) (hi4 : I < 4) (hj4 : J < 4) : Met l yX1_changeCell wsX1_changeCell ({ frames := 4, cells := 0, slots := 0, locals := 90 } : Room) (va_Pc [.ref (ad (b)), .int (nI (I)), .int (nI (J)), .int (nI (V))] (PW D tys A n ad (E))) (QW none (PW D tys A n ad (va_up (va_up E (b + 1) (.inl (cI, 16, .inl (nF (va_up c0 (4 * I + J) V))))) (b + 2) (.inl (cI, 256, .inl (nF (pf nn (va_up c0 (4 * I + J) V) tt (2 ^ nn) 0)))))) A) 0 0 A := by
  have p4 := pow4 hnn
  have p0 : 0 < 2 ^ nn := Nat.pow_pos (by decide)
  refine g_writes (cc := cX1_changeCell) (maxL := 4) (ret := none) (by decide) rfl (Nat.le_of_ble_eq_true rfl) ?_
  intro p e s m args below meth c hx hb hrt hts hown hlocks hml hP hK hD hS ls hl
  show W p l e ({ frames := 4, cells := 0, slots := 0, locals := 90 } : Room) s m args below meth c s.heap [] 0 0 _ _
  have hl : lv_has ls 4 [(0, .ref (ad (b))), (1, .int (nI (I))), (2, .int (nI (J))), (3, .int (nI (V)))] := hl
  refine lv_aload_n hx hb dX1_changeCell_0 rfl (lv_at hl 0 rfl) ?_
  refine g_get (b) 2 (C := RX1) (T := TX1) (N := 4) (ci := 0) (ref := "CubeWorlds$World") hx hb hts (by decide +kernel) hown hK hP (by omega) hw.1 rfl (by decide) (by decide +kernel) rfl rfl dX1_changeCell_1 ?_
  refine lv_iload_n hx hb dX1_changeCell_4 rfl (lv_at hl 1 rfl) ?_
  refine lv_iload_n hx hb dX1_changeCell_5 rfl (lv_at hl 2 rfl) ?_
  refine g_callSN (As := [.int (nI (I)), .int (nI (J))]) (rest := [.ref (ad (b + 1))]) (k := 2) (c_X2_cellIndex l hI hbn hw hi4 hj4) ggX1_changeCell_X2_cellIndex rfl rfl rfl hK.2 (by decide +kernel) (by decide +kernel) (by decide +kernel) ⟨Nat.le_of_ble_eq_true rfl, Nat.le_of_ble_eq_true rfl⟩ hx hb hml hown hts hK hP  rfl hl.1 rfl (Nat.le_of_ble_eq_true rfl) (Nat.zero_le _) (Nat.zero_le _) dX1_changeCell_6 ?_
  refine lv_iload_n hx hb dX1_changeCell_9 rfl (lv_at hl 3 rfl) ?_
  refine g_iast (b + 1) (4 * I + J) (V) hx hb hK hP (pic_D _ hD) hS (by omega) hw.2.1 hI (by omega) (by decide) dX1_changeCell_10 (fun H locs hP hS => ?_)
  refine lv_aload_n hx hb dX1_changeCell_11 rfl (lv_at hl 0 rfl) ?_
  refine g_callVW (b) (C := RX1) (T := TX1) (N := 4) (ci := 0) (As := []) (rest := []) (c_X1_fillTable l hI hbn (hw.up1 _) hnn) (cwV 0 hts gX1_changeCell_X1_fillTable rfl rfl rfl (by decide +kernel) ⟨Nat.le_of_ble_eq_true rfl, Nat.le_of_ble_eq_true rfl⟩) hx hb hml hown hts hK hP (pic_D _ hD) hS  (by omega) (hw.up1 _).1 rfl rfl hl.1 rfl (Nat.le_of_ble_eq_true rfl) (Nat.zero_le _) (Nat.zero_le _) dX1_changeCell_12 (fun H locs hP hS => ?_)
  exact g_vretW hx hb hrt hlocks hK hP (pic_D _ hD) hS dX1_changeCell_15
set_option maxHeartbeats 4000000 in
set_option maxRecDepth 100000 in
theorem c_X1_take (l : Launch) {D : va_G} {tys : List (ClassId × FieldType)} {A : Nat → Prop} {ad : Nat → Nat} {n : Nat} {E : Nat → va_E} {cI : ClassId} {t0 b nn : Nat} {c0 tt : Nat → Nat} (hI : tys[t0]? = some (cI, .int)) (hbn : b + 2 < n) (hw : isW cI ad E b nn c0 tt) {K cx : Nat} {e0 : Nat → Nat} (hK4 : K ≤ 4) (hcx : cx < n) (hcx0 : cx < b ∨ b + 2 < cx) (hex : E cx = .inl (cI, 16, .inl (nF e0))) : Met l yX1_take wsX1_take ({ frames := 4, cells := 0, slots := 0, locals := 90 } : Room) (va_Pc [.ref (ad (b)), .int (nI (K)), .ref (ad (cx))] (PW D tys A n ad (E))) (QW none (PW D tys A n ad (va_up (va_up (va_up E b (.inr (0, [.int (nI K), .int (nI (2 ^ K)), .ref (ad (b + 1)), .ref (ad (b + 2))]))) (b + 1) (.inl (cI, 16, .inl (nF (cpy e0 c0 16))))) (b + 2) (.inl (cI, 256, .inl (nF (pf K (cpy e0 c0 16) tt (2 ^ K) 0)))))) A) 0 0 A := by
  refine g_writes (cc := cX1_take) (maxL := 4) (ret := none) (by decide) rfl (Nat.le_of_ble_eq_true rfl) ?_
  intro p e s m args below meth c hx hb hrt hts hown hlocks hml hP hK hD hS ls hl
  show W p l e ({ frames := 4, cells := 0, slots := 0, locals := 90 } : Room) s m args below meth c s.heap [] 0 0 _ _
  have hl : lv_has ls 4 [(0, .ref (ad (b))), (1, .int (nI (K))), (2, .ref (ad (cx)))] := hl
  refine lv_aload_n hx hb dX1_take_0 rfl (lv_at hl 0 rfl) ?_
  refine lv_iload_n hx hb dX1_take_1 rfl (lv_at hl 1 rfl) ?_
  refine g_put (b) 0 (C := RX1) (T := TX1) (N := 4) (ci := 0) (ref := "CubeWorlds$World") (v := .int (nI (K))) (ty := .int) hx hb hts (by decide +kernel) tyX1 tyX1_ok nmX1 hown hK hP (pic_D _ hD) hS (by omega) hw.1 rfl (by decide) (by decide +kernel) rfl rfl (by decide +kernel) rfl rfl (Nat.le_of_ble_eq_true rfl) dX1_take_2 (fun H locs hP hS => ?_)
  have hP : va_P D vwCl (pic n ad (va_up E b (.inr (0, [.int (nI K), .int (nI (2 ^ nn)), .ref (ad (b + 1)), .ref (ad (b + 2))])))) H := hP
  refine lv_aload_n hx hb dX1_take_5 rfl (lv_at hl 0 rfl) ?_
  refine n_iconst 1 hx hb dX1_take_6 ?_
  refine lv_iload_n hx hb dX1_take_7 rfl (lv_at hl 1 rfl) ?_
  refine n_ishl hx hb dX1_take_8 (by omega) ?_
  refine n_eq (congrArg nI (shl1 K)) ?_
  refine g_put (b) 1 (C := RX1) (T := TX1) (N := 4) (ci := 0) (ref := "CubeWorlds$World") (v := .int (nI (2 ^ K))) (ty := .int) hx hb hts (by decide +kernel) tyX1 tyX1_ok nmX1 hown hK hP (pic_D _ hD) hS (by omega) (va_up_self _ _ _) rfl (by decide) (by decide +kernel) rfl rfl (by decide +kernel) rfl rfl (Nat.le_of_ble_eq_true rfl) dX1_take_9 (fun H locs hP hS => ?_)
  rw [va_up_up] at hP
  have hP : va_P D vwCl (pic n ad (va_up (va_up E b (.inr (0, [.int (nI K), .int (nI (2 ^ K)), .ref (ad (b + 1)), .ref (ad (b + 2))]))) (b + 1) (.inl (cI, 16, .inl (nF (cpy e0 c0 0)))))) H := by rw [tk_0 hw]; exact hP
  refine n_iconst 0 hx hb dX1_take_12 ?_
  refine lv_istore_n (lv' := [(3, .int (nI (0))), (0, .ref (ad (b))), (1, .int (nI (K))), (2, .ref (ad (cx)))]) hx hb dX1_take_13 rfl hl (by decide) rfl (fun ls hl => ?_)
  have L_14 : ∀ (r : Nat) (i : Nat), (i ≤ 16) → (16 < i + r) → ∀ (H : Heap) (locs : List Loc), va_P D vwCl (pic n ad (va_up (va_up E b (.inr (0, [.int (nI K), .int (nI (2 ^ K)), .ref (ad (b + 1)), .ref (ad (b + 2))]))) (b + 1) (.inl (cI, 16, .inl (nF (cpy e0 c0 i)))))) H → va_S A s.heap H locs → ∀ (ls : Array Slot), lv_has ls 4 [(0, .ref (ad (b))), (1, .int (nI (K))), (2, .ref (ad (cx))), (3, .int (nI (i)))] → W p l e ({ frames := 4, cells := 0, slots := 0, locals := 90 } : Room) s m args below meth c H locs 0 0 (MQ below (QW none (PW D tys A n ad (va_up (va_up (va_up E b (.inr (0, [.int (nI K), .int (nI (2 ^ K)), .ref (ad (b + 1)), .ref (ad (b + 2))]))) (b + 1) (.inl (cI, 16, .inl (nF (cpy e0 c0 16))))) (b + 2) (.inl (cI, 256, .inl (nF (pf K (cpy e0 c0 16) tt (2 ^ K) 0)))))) A) args s 0 0 A) (F0 m 14 ls []) := by
    intro r
    induction r with
    | zero => intro i hi hr; intros; exact absurd hr (by omega)
    | succ r ih =>
      intro i hi hr H locs hP hS ls hl
      have ih_14 := ih
      refine lv_iload_n hx hb dX1_take_14 rfl (lv_at hl 3 rfl) ?_
      refine lv_aload_n hx hb dX1_take_15 rfl (lv_at hl 0 rfl) ?_
      refine g_get (b) 2 (C := RX1) (T := TX1) (N := 4) (ci := 0) (ref := "CubeWorlds$World") hx hb hts (by decide +kernel) hown hK hP (by omega) (tk_W hw e0 _).1 rfl (by decide) (by decide +kernel) rfl rfl dX1_take_16 ?_
      refine g_alen (b + 1) hx hb hK hP (by omega) (tk_W hw e0 _).2.1 hI dX1_take_19 ?_
      refine n_ge (tgt := 44) hx hb dX1_take_20 (by decide) (by omega) (by omega) (fun h_20 => ?_) (fun h_20 => ?_)
      · rw [show i = 16 by omega] at hP
        refine lv_aload_n hx hb dX1_take_44 rfl (lv_at hl 0 rfl) ?_
        refine g_callVW (b) (C := RX1) (T := TX1) (N := 4) (ci := 0) (As := []) (rest := []) (c_X1_fillTable l hI hbn (tk_W hw e0 16) hK4) (cwV 0 hts gX1_take_X1_fillTable rfl rfl rfl (by decide +kernel) ⟨Nat.le_of_ble_eq_true rfl, Nat.le_of_ble_eq_true rfl⟩) hx hb hml hown hts hK hP (pic_D _ hD) hS  (by omega) (tk_W hw e0 _).1 rfl rfl hl.1 rfl (Nat.le_of_ble_eq_true rfl) (Nat.zero_le _) (Nat.zero_le _) dX1_take_45 (fun H locs hP hS => ?_)
        exact g_vretW hx hb hrt hlocks hK hP (pic_D _ hD) hS dX1_take_48
      · refine lv_iload_n hx hb dX1_take_23 rfl (lv_at hl 3 rfl) ?_
        refine lv_aload_n hx hb dX1_take_24 rfl (lv_at hl 2 rfl) ?_
        refine g_alen (cx) hx hb hK hP hcx (tk_X hcx0 hex) hI dX1_take_25 ?_
        refine n_ge (tgt := 44) hx hb dX1_take_26 (by decide) (by omega) (by omega) (fun h_26 => ?_) (fun h_26 => ?_)
        · exact absurd h_26 (by omega)
        · refine lv_aload_n hx hb dX1_take_29 rfl (lv_at hl 0 rfl) ?_
          refine g_get (b) 2 (C := RX1) (T := TX1) (N := 4) (ci := 0) (ref := "CubeWorlds$World") hx hb hts (by decide +kernel) hown hK hP (by omega) (tk_W hw e0 _).1 rfl (by decide) (by decide +kernel) rfl rfl dX1_take_30 ?_
          refine lv_iload_n hx hb dX1_take_33 rfl (lv_at hl 3 rfl) ?_
          refine lv_aload_n hx hb dX1_take_34 rfl (lv_at hl 2 rfl) ?_
          refine lv_iload_n hx hb dX1_take_35 rfl (lv_at hl 3 rfl) ?_
          refine g_iald (cx) (i) (t0 := _) hx hb hK hP hcx (tk_X hcx0 hex) hI (by omega) (by decide) dX1_take_36 ?_
          refine g_iast (b + 1) (i) (e0 (i)) hx hb hK hP (pic_D _ hD) hS (by omega) (tk_W hw e0 _).2.1 hI (by omega) (by decide) dX1_take_37 (fun H locs hP hS => ?_)
          rw [va_up_up, cpy_put] at hP
          refine n_iinc 3 1 (lv' := [(3, .int (nI (i + 1))), (0, .ref (ad (b))), (1, .int (nI (K))), (2, .ref (ad (cx)))]) hx hb dX1_take_38 hl rfl (by decide) rfl (fun ls hl => ?_)
          refine n_goto 14 hx hb dX1_take_41 (by decide) ?_
          exact ih_14 (i + 1) (by omega) (by omega) _ _ hP hS _ (lv_sub hl [1, 2, 3, 0] rfl)
  exact L_14 17 (0) (Nat.zero_le _) (by omega) _ _ hP hS _ (lv_sub hl [1, 2, 3, 0] rfl)
set_option maxHeartbeats 4000000 in
set_option maxRecDepth 100000 in
theorem c_X1_leastPartner (l : Launch) {D : va_G} {tys : List (ClassId × FieldType)} {ad : Nat → Nat} {n : Nat} {E : Nat → va_E} {cI : ClassId} {t0 b nn : Nat} {c0 tt : Nat → Nat} (hI : tys[t0]? = some (cI, .int)) (hbn : b + 2 < n) (hw : isW cI ad E b nn c0 tt) {X : Nat} (ht : tOK nn c0 tt) (hnn : nn ≤ 4) (hcb : CB nn c0) (hX : X < 2 ^ nn) : Met l yX1_leastPartner wsX1_leastPartner ({ frames := 2, cells := 0, slots := 0, locals := 43 } : Room) (va_Pc [.ref (ad (b)), .int (nI (X))] (PB D tys n ad (E))) (k2_QcV (.int (oI (lpr nn c0 X)))) 0 0 (fun _ => False) := by
  have p4 := pow4 hnn
  have p0 : 0 < 2 ^ nn := Nat.pow_pos (by decide)
  refine g_pure (cc := cX1_leastPartner) (maxL := 3) (ret := (some .int)) (by decide) rfl (Nat.le_of_ble_eq_true rfl) ?_
  intro p e s m args below meth c hx hb hrt hts hown hlocks hml hP hK ls hl
  show W p l e ({ frames := 2, cells := 0, slots := 0, locals := 43 } : Room) s m args below meth c s.heap [] 0 0 _ _
  have hl : lv_has ls 3 [(0, .ref (ad (b))), (1, .int (nI (X)))] := hl
  refine n_iconst 1 hx hb dX1_leastPartner_0 ?_
  refine lv_istore_n (lv' := [(2, .int (nI (1))), (0, .ref (ad (b))), (1, .int (nI (X)))]) hx hb dX1_leastPartner_1 rfl hl (by decide) rfl (fun ls hl => ?_)
  have L_2 : ∀ (r : Nat) (y : Nat), (1 ≤ y) → (y ≤ 2 ^ nn) → (2 ^ nn < y + r) → (∀ j, 1 ≤ j → j < y → (tm nn c0 X j == 0) = false) → ∀ (ls : Array Slot), lv_has ls 3 [(0, .ref (ad (b))), (1, .int (nI (X))), (2, .int (nI (y)))] → W p l e ({ frames := 2, cells := 0, slots := 0, locals := 43 } : Room) s m args below meth c s.heap [] 0 0 (MQ below (k2_QcV (.int (oI (lpr nn c0 X)))) args s 0 0 (fun _ => False)) (F0 m 2 ls []) := by
    intro r
    induction r with
    | zero => intro y hy1 hy hr hno; intros; exact absurd hr (by omega)
    | succ r ih =>
      intro y hy1 hy hr hno ls hl
      have ih_2 := ih
      refine lv_iload_n hx hb dX1_leastPartner_2 rfl (lv_at hl 2 rfl) ?_
      refine lv_aload_n hx hb dX1_leastPartner_3 rfl (lv_at hl 0 rfl) ?_
      refine g_get (b) 1 (C := RX1) (T := TX1) (N := 4) (ci := 0) (ref := "CubeWorlds$World") hx hb hts (by decide +kernel) hown hK hP (by omega) hw.1 rfl (by decide) (by decide +kernel) rfl rfl dX1_leastPartner_4 ?_
      refine n_ge (tgt := 27) hx hb dX1_leastPartner_7 (by decide) (by omega) (by omega) (fun h_7 => ?_) (fun h_7 => ?_)
      · refine lv_bipush (v := (-9)) hx hb dX1_leastPartner_27 (by decide) ?_
        exact g_iret hx hb hrt hlocks dX1_leastPartner_29 (by rw [show lpr nn c0 X = none from fl_no (fun j h1 h2 => hno j h1 (by omega))]; rfl)
      · refine lv_aload_n hx hb dX1_leastPartner_10 rfl (lv_at hl 0 rfl) ?_
        refine lv_iload_n hx hb dX1_leastPartner_11 rfl (lv_at hl 1 rfl) ?_
        refine lv_iload_n hx hb dX1_leastPartner_12 rfl (lv_at hl 2 rfl) ?_
        refine g_callV (b) (C := RX1) (T := TX1) (N := 4) (ci := 0) (As := [.int (nI (X)), .int (nI (y))]) (rest := []) (c_X1_times l hI hbn hw (X := X) (Y := y) ht hnn (by omega) (by omega)) (cwV 2 hts gX1_leastPartner_X1_times rfl rfl rfl (by decide +kernel) ⟨Nat.le_of_ble_eq_true rfl, Nat.le_of_ble_eq_true rfl⟩) hx hb hml hown hts hK hP  (by omega) hw.1 rfl rfl hl.1 rfl (Nat.le_of_ble_eq_true rfl) (Nat.zero_le _) (Nat.zero_le _) dX1_leastPartner_13 ?_
        have hm9 := tm_lt hcb X y
        refine n_z_ne (tgt := 21) hx hb dX1_leastPartner_16 (by decide) (by omega) (fun h_16 => ?_) (fun h_16 => ?_)
        · refine n_iinc 2 1 (lv' := [(2, .int (nI (y + 1))), (0, .ref (ad (b))), (1, .int (nI (X)))]) hx hb dX1_leastPartner_21 hl rfl (by decide) rfl (fun ls hl => ?_)
          refine n_goto 2 hx hb dX1_leastPartner_24 (by decide) ?_
          exact ih_2 (y + 1) (by omega) (by omega) (by omega) (no_s hno (bF h_16)) _ (lv_sub hl [1, 2, 0] rfl)
        · refine lv_iload_n hx hb dX1_leastPartner_19 rfl (lv_at hl 2 rfl) ?_
          exact g_iret hx hb hrt hlocks dX1_leastPartner_20 (by rw [show lpr nn c0 X = some y from fl_at hy1 (by omega) (bT h_16) hno]; rfl)
  exact L_2 (2 ^ nn + 1) (1) (Nat.le_refl _) (by omega) (by omega) (fun j h1 h2 => absurd h1 (by omega)) _ (lv_sub hl [1, 2, 0] rfl)
set_option maxHeartbeats 4000000 in
set_option maxRecDepth 100000 in
theorem c_X1_leastBroken (l : Launch) {D : va_G} {tys : List (ClassId × FieldType)} {ad : Nat → Nat} {n : Nat} {E : Nat → va_E} {cI : ClassId} {t0 b nn : Nat} {c0 tt : Nat → Nat} (hI : tys[t0]? = some (cI, .int)) (hbn : b + 2 < n) (hw : isW cI ad E b nn c0 tt) (ht : tOK nn c0 tt) (hnn : nn ≤ 4) (hcb : CB nn c0) : Met l yX1_leastBroken wsX1_leastBroken ({ frames := 3, cells := 0, slots := 0, locals := 65 } : Room) (va_Pc [.ref (ad (b))] (PB D tys n ad (E))) (k2_QcV (.int (oI (lbr nn c0)))) 0 0 (fun _ => False) := by
  have p4 := pow4 hnn
  have p0 : 0 < 2 ^ nn := Nat.pow_pos (by decide)
  refine g_pure (cc := cX1_leastBroken) (maxL := 2) (ret := (some .int)) (by decide) rfl (Nat.le_of_ble_eq_true rfl) ?_
  intro p e s m args below meth c hx hb hrt hts hown hlocks hml hP hK ls hl
  show W p l e ({ frames := 3, cells := 0, slots := 0, locals := 65 } : Room) s m args below meth c s.heap [] 0 0 _ _
  have hl : lv_has ls 2 [(0, .ref (ad (b)))] := hl
  refine n_iconst 1 hx hb dX1_leastBroken_0 ?_
  refine lv_istore_n (lv' := [(1, .int (nI (1))), (0, .ref (ad (b)))]) hx hb dX1_leastBroken_1 rfl hl (by decide) rfl (fun ls hl => ?_)
  have L_2 : ∀ (r : Nat) (x : Nat), (1 ≤ x) → (x ≤ 2 ^ nn) → (2 ^ nn < x + r) → (∀ j, 1 ≤ j → j < x → (lpr nn c0 j).isSome = false) → ∀ (ls : Array Slot), lv_has ls 2 [(0, .ref (ad (b))), (1, .int (nI (x)))] → W p l e ({ frames := 3, cells := 0, slots := 0, locals := 65 } : Room) s m args below meth c s.heap [] 0 0 (MQ below (k2_QcV (.int (oI (lbr nn c0)))) args s 0 0 (fun _ => False)) (F0 m 2 ls []) := by
    intro r
    induction r with
    | zero => intro x hy1 hy hr hno; intros; exact absurd hr (by omega)
    | succ r ih =>
      intro x hy1 hy hr hno ls hl
      have ih_2 := ih
      refine lv_iload_n hx hb dX1_leastBroken_2 rfl (lv_at hl 1 rfl) ?_
      refine lv_aload_n hx hb dX1_leastBroken_3 rfl (lv_at hl 0 rfl) ?_
      refine g_get (b) 1 (C := RX1) (T := TX1) (N := 4) (ci := 0) (ref := "CubeWorlds$World") hx hb hts (by decide +kernel) hown hK hP (by omega) hw.1 rfl (by decide) (by decide +kernel) rfl rfl dX1_leastBroken_4 ?_
      refine n_ge (tgt := 28) hx hb dX1_leastBroken_7 (by decide) (by omega) (by omega) (fun h_7 => ?_) (fun h_7 => ?_)
      · refine lv_bipush (v := (-9)) hx hb dX1_leastBroken_28 (by decide) ?_
        exact g_iret hx hb hrt hlocks dX1_leastBroken_30 (by rw [show lbr nn c0 = none from fl_no (fun j h1 h2 => hno j h1 (by omega))]; rfl)
      · refine lv_aload_n hx hb dX1_leastBroken_10 rfl (lv_at hl 0 rfl) ?_
        refine lv_iload_n hx hb dX1_leastBroken_11 rfl (lv_at hl 1 rfl) ?_
        refine g_callV (b) (C := RX1) (T := TX1) (N := 4) (ci := 0) (As := [.int (nI (x))]) (rest := []) (c_X1_leastPartner l hI hbn hw (X := x) ht hnn hcb (by omega)) (cwV 1 hts gX1_leastBroken_X1_leastPartner rfl rfl rfl (by decide +kernel) ⟨Nat.le_of_ble_eq_true rfl, Nat.le_of_ble_eq_true rfl⟩) hx hb hml hown hts hK hP  (by omega) hw.1 rfl rfl hl.1 rfl (Nat.le_of_ble_eq_true rfl) (Nat.zero_le _) (Nat.zero_le _) dX1_leastBroken_12 ?_
        refine lv_bipush (v := (-9)) hx hb dX1_leastBroken_15 (by decide) ?_
        refine n_ceq_o (tgt := 22) hx hb dX1_leastBroken_17 (by decide) (fun k hk => by have := (fl_some hk).2.1; omega) (fun h_17 => ?_) (fun h_17 => ?_)
        · refine n_iinc 1 1 (lv' := [(1, .int (nI (x + 1))), (0, .ref (ad (b)))]) hx hb dX1_leastBroken_22 hl rfl (by decide) rfl (fun ls hl => ?_)
          refine n_goto 2 hx hb dX1_leastBroken_25 (by decide) ?_
          exact ih_2 (x + 1) (by omega) (by omega) (by omega) (no_s hno (sF h_17)) _ (lv_sub hl [1, 0] rfl)
        · refine lv_iload_n hx hb dX1_leastBroken_20 rfl (lv_at hl 1 rfl) ?_
          exact g_iret hx hb hrt hlocks dX1_leastBroken_21 (by rw [show lbr nn c0 = some x from fl_at hy1 (by omega) (sT h_17) hno]; rfl)
  exact L_2 (2 ^ nn + 1) (1) (Nat.le_refl _) (by omega) (by omega) (fun j h1 h2 => absurd h1 (by omega)) _ (lv_sub hl [1, 0] rfl)
set_option maxHeartbeats 4000000 in
set_option maxRecDepth 100000 in
theorem c_X1_isWhole (l : Launch) {D : va_G} {tys : List (ClassId × FieldType)} {ad : Nat → Nat} {n : Nat} {E : Nat → va_E} {cI : ClassId} {t0 b nn : Nat} {c0 tt : Nat → Nat} (hI : tys[t0]? = some (cI, .int)) (hbn : b + 2 < n) (hw : isW cI ad E b nn c0 tt) (ht : tOK nn c0 tt) (hnn : nn ≤ 4) (hcb : CB nn c0) : Met l yX1_isWhole wsX1_isWhole ({ frames := 4, cells := 0, slots := 0, locals := 86 } : Room) (va_Pc [.ref (ad (b))] (PB D tys n ad (E))) (k2_QcV (.int (bI (lbr nn c0).isNone))) 0 0 (fun _ => False) := by
  have p4 := pow4 hnn
  have p0 : 0 < 2 ^ nn := Nat.pow_pos (by decide)
  refine g_pure (cc := cX1_isWhole) (maxL := 1) (ret := (some .boolean)) (by decide) rfl (Nat.le_of_ble_eq_true rfl) ?_
  intro p e s m args below meth c hx hb hrt hts hown hlocks hml hP hK ls hl
  show W p l e ({ frames := 4, cells := 0, slots := 0, locals := 86 } : Room) s m args below meth c s.heap [] 0 0 _ _
  have hl : lv_has ls 1 [(0, .ref (ad (b)))] := hl
  refine lv_aload_n hx hb dX1_isWhole_0 rfl (lv_at hl 0 rfl) ?_
  refine g_callV (b) (C := RX1) (T := TX1) (N := 4) (ci := 0) (As := []) (rest := []) (c_X1_leastBroken l hI hbn hw ht hnn hcb) (cwV 0 hts gX1_isWhole_X1_leastBroken rfl rfl rfl (by decide +kernel) ⟨Nat.le_of_ble_eq_true rfl, Nat.le_of_ble_eq_true rfl⟩) hx hb hml hown hts hK hP  (by omega) hw.1 rfl rfl hl.1 rfl (Nat.le_of_ble_eq_true rfl) (Nat.zero_le _) (Nat.zero_le _) dX1_isWhole_1 ?_
  refine lv_bipush (v := (-9)) hx hb dX1_isWhole_4 (by decide) ?_
  refine n_cne_o (tgt := 13) hx hb dX1_isWhole_6 (by decide) (fun k hk => by have := (fl_some hk).2.1; omega) (fun h_6 => ?_) (fun h_6 => ?_)
  · refine n_iconst 0 hx hb dX1_isWhole_13 ?_
    exact g_zret (false) hx hb hrt hlocks dX1_isWhole_14 rfl (by rw [show (lbr nn c0).isNone = false from iN h_6])
  · refine n_iconst 1 hx hb dX1_isWhole_9 ?_
    refine n_goto 14 hx hb dX1_isWhole_10 (by decide) ?_
    exact g_zret (true) hx hb hrt hlocks dX1_isWhole_14 rfl (by rw [show (lbr nn c0).isNone = true from by rw [h_6]; rfl])
set_option maxHeartbeats 4000000 in
set_option maxRecDepth 100000 in
theorem c_X1_isUnit (l : Launch) {D : va_G} {tys : List (ClassId × FieldType)} {ad : Nat → Nat} {n : Nat} {E : Nat → va_E} {cI : ClassId} {t0 b nn : Nat} {c0 tt : Nat → Nat} (hI : tys[t0]? = some (cI, .int)) (hbn : b + 2 < n) (hw : isW cI ad E b nn c0 tt) {X : Nat} (ht : tOK nn c0 tt) (hnn : nn ≤ 4) (hcb : CB nn c0) (hX : X < 2 ^ nn) : Met l yX1_isUnit wsX1_isUnit ({ frames := 2, cells := 0, slots := 0, locals := 43 } : Room) (va_Pc [.ref (ad (b)), .int (nI (X))] (PB D tys n ad (E))) (k2_QcV (.int (bI (isU nn c0 X)))) 0 0 (fun _ => False) := by
  have p4 := pow4 hnn
  have p0 : 0 < 2 ^ nn := Nat.pow_pos (by decide)
  refine g_pure (cc := cX1_isUnit) (maxL := 3) (ret := (some .boolean)) (by decide) rfl (Nat.le_of_ble_eq_true rfl) ?_
  intro p e s m args below meth c hx hb hrt hts hown hlocks hml hP hK ls hl
  show W p l e ({ frames := 2, cells := 0, slots := 0, locals := 43 } : Room) s m args below meth c s.heap [] 0 0 _ _
  have hl : lv_has ls 3 [(0, .ref (ad (b))), (1, .int (nI (X)))] := hl
  refine n_iconst 0 hx hb dX1_isUnit_0 ?_
  refine lv_istore_n (lv' := [(2, .int (nI (0))), (0, .ref (ad (b))), (1, .int (nI (X)))]) hx hb dX1_isUnit_1 rfl hl (by decide) rfl (fun ls hl => ?_)
  have L_2 : ∀ (r : Nat) (y : Nat), (y ≤ 2 ^ nn) → (2 ^ nn < y + r) → (∀ j, j < y → ((tm nn c0 X j == j) && (tm nn c0 j X == j)) = true) → ∀ (ls : Array Slot), lv_has ls 3 [(0, .ref (ad (b))), (1, .int (nI (X))), (2, .int (nI (y)))] → W p l e ({ frames := 2, cells := 0, slots := 0, locals := 43 } : Room) s m args below meth c s.heap [] 0 0 (MQ below (k2_QcV (.int (bI (isU nn c0 X)))) args s 0 0 (fun _ => False)) (F0 m 2 ls []) := by
    intro r
    induction r with
    | zero => intro y hy hr hno; intros; exact absurd hr (by omega)
    | succ r ih =>
      intro y hy hr hno ls hl
      have ih_2 := ih
      refine lv_iload_n hx hb dX1_isUnit_2 rfl (lv_at hl 2 rfl) ?_
      refine lv_aload_n hx hb dX1_isUnit_3 rfl (lv_at hl 0 rfl) ?_
      refine g_get (b) 1 (C := RX1) (T := TX1) (N := 4) (ci := 0) (ref := "CubeWorlds$World") hx hb hts (by decide +kernel) hown hK hP (by omega) hw.1 rfl (by decide) (by decide +kernel) rfl rfl dX1_isUnit_4 ?_
      refine n_ge (tgt := 38) hx hb dX1_isUnit_7 (by decide) (by omega) (by omega) (fun h_7 => ?_) (fun h_7 => ?_)
      · refine n_iconst 1 hx hb dX1_isUnit_38 ?_
        exact g_zret (true) hx hb hrt hlocks dX1_isUnit_39 rfl (by rw [show isU nn c0 X = true from al_yes (fun k hk => hno k (by omega))])
      · refine lv_aload_n hx hb dX1_isUnit_10 rfl (lv_at hl 0 rfl) ?_
        refine lv_iload_n hx hb dX1_isUnit_11 rfl (lv_at hl 1 rfl) ?_
        refine lv_iload_n hx hb dX1_isUnit_12 rfl (lv_at hl 2 rfl) ?_
        refine g_callV (b) (C := RX1) (T := TX1) (N := 4) (ci := 0) (As := [.int (nI (X)), .int (nI (y))]) (rest := []) (c_X1_times l hI hbn hw (X := X) (Y := y) ht hnn (by omega) (by omega)) (cwV 2 hts gX1_isUnit_X1_times rfl rfl rfl (by decide +kernel) ⟨Nat.le_of_ble_eq_true rfl, Nat.le_of_ble_eq_true rfl⟩) hx hb hml hown hts hK hP  (by omega) hw.1 rfl rfl hl.1 rfl (Nat.le_of_ble_eq_true rfl) (Nat.zero_le _) (Nat.zero_le _) dX1_isUnit_13 ?_
        refine lv_iload_n hx hb dX1_isUnit_16 rfl (lv_at hl 2 rfl) ?_
        have hm9 := tm_lt hcb X y
        refine n_cne (tgt := 30) hx hb dX1_isUnit_17 (by decide) (by omega) (by omega) (fun h_17 => ?_) (fun h_17 => ?_)
        · refine n_iconst 0 hx hb dX1_isUnit_30 ?_
          exact g_zret (false) hx hb hrt hlocks dX1_isUnit_31 rfl (by rw [show isU nn c0 X = false from al_no (k := y) (by omega) (by rw [bF h_17]; rfl)])
        · refine lv_aload_n hx hb dX1_isUnit_20 rfl (lv_at hl 0 rfl) ?_
          refine lv_iload_n hx hb dX1_isUnit_21 rfl (lv_at hl 2 rfl) ?_
          refine lv_iload_n hx hb dX1_isUnit_22 rfl (lv_at hl 1 rfl) ?_
          refine g_callV (b) (C := RX1) (T := TX1) (N := 4) (ci := 0) (As := [.int (nI (y)), .int (nI (X))]) (rest := []) (c_X1_times l hI hbn hw (X := y) (Y := X) ht hnn (by omega) (by omega)) (cwV 2 hts gX1_isUnit_X1_times rfl rfl rfl (by decide +kernel) ⟨Nat.le_of_ble_eq_true rfl, Nat.le_of_ble_eq_true rfl⟩) hx hb hml hown hts hK hP  (by omega) hw.1 rfl rfl hl.1 rfl (Nat.le_of_ble_eq_true rfl) (Nat.zero_le _) (Nat.zero_le _) dX1_isUnit_23 ?_
          refine lv_iload_n hx hb dX1_isUnit_26 rfl (lv_at hl 2 rfl) ?_
          have hm8 := tm_lt hcb y X
          refine n_ceq (tgt := 32) hx hb dX1_isUnit_27 (by decide) (by omega) (by omega) (fun h_27 => ?_) (fun h_27 => ?_)
          · refine n_iinc 2 1 (lv' := [(2, .int (nI (y + 1))), (0, .ref (ad (b))), (1, .int (nI (X)))]) hx hb dX1_isUnit_32 hl rfl (by decide) rfl (fun ls hl => ?_)
            refine n_goto 2 hx hb dX1_isUnit_35 (by decide) ?_
            exact ih_2 (y + 1) (by omega) (by omega) (ya_s hno (by rw [bT h_17, bT h_27]; rfl)) _ (lv_sub hl [1, 2, 0] rfl)
          · refine n_iconst 0 hx hb dX1_isUnit_30 ?_
            exact g_zret (false) hx hb hrt hlocks dX1_isUnit_31 rfl (by rw [show isU nn c0 X = false from al_no (k := y) (by omega) (by rw [bF h_27, Bool.and_false])])
  exact L_2 (2 ^ nn + 1) (0) (Nat.zero_le _) (by omega) (fun j h => absurd h (by omega)) _ (lv_sub hl [1, 2, 0] rfl)
set_option maxHeartbeats 4000000 in
set_option maxRecDepth 100000 in
theorem c_X1_unit (l : Launch) {D : va_G} {tys : List (ClassId × FieldType)} {ad : Nat → Nat} {n : Nat} {E : Nat → va_E} {cI : ClassId} {t0 b nn : Nat} {c0 tt : Nat → Nat} (hI : tys[t0]? = some (cI, .int)) (hbn : b + 2 < n) (hw : isW cI ad E b nn c0 tt) (ht : tOK nn c0 tt) (hnn : nn ≤ 4) (hcb : CB nn c0) : Met l yX1_unit wsX1_unit ({ frames := 3, cells := 0, slots := 0, locals := 65 } : Room) (va_Pc [.ref (ad (b))] (PB D tys n ad (E))) (k2_QcV (.int (oI (unt nn c0)))) 0 0 (fun _ => False) := by
  have p4 := pow4 hnn
  have p0 : 0 < 2 ^ nn := Nat.pow_pos (by decide)
  refine g_pure (cc := cX1_unit) (maxL := 2) (ret := (some .int)) (by decide) rfl (Nat.le_of_ble_eq_true rfl) ?_
  intro p e s m args below meth c hx hb hrt hts hown hlocks hml hP hK ls hl
  show W p l e ({ frames := 3, cells := 0, slots := 0, locals := 65 } : Room) s m args below meth c s.heap [] 0 0 _ _
  have hl : lv_has ls 2 [(0, .ref (ad (b)))] := hl
  refine n_iconst 0 hx hb dX1_unit_0 ?_
  refine lv_istore_n (lv' := [(1, .int (nI (0))), (0, .ref (ad (b)))]) hx hb dX1_unit_1 rfl hl (by decide) rfl (fun ls hl => ?_)
  have L_2 : ∀ (r : Nat) (x : Nat), (x ≤ 2 ^ nn) → (2 ^ nn < x + r) → (∀ j, 0 ≤ j → j < x → isU nn c0 j = false) → ∀ (ls : Array Slot), lv_has ls 2 [(0, .ref (ad (b))), (1, .int (nI (x)))] → W p l e ({ frames := 3, cells := 0, slots := 0, locals := 65 } : Room) s m args below meth c s.heap [] 0 0 (MQ below (k2_QcV (.int (oI (unt nn c0)))) args s 0 0 (fun _ => False)) (F0 m 2 ls []) := by
    intro r
    induction r with
    | zero => intro x hy hr hno; intros; exact absurd hr (by omega)
    | succ r ih =>
      intro x hy hr hno ls hl
      have ih_2 := ih
      refine lv_iload_n hx hb dX1_unit_2 rfl (lv_at hl 1 rfl) ?_
      refine lv_aload_n hx hb dX1_unit_3 rfl (lv_at hl 0 rfl) ?_
      refine g_get (b) 1 (C := RX1) (T := TX1) (N := 4) (ci := 0) (ref := "CubeWorlds$World") hx hb hts (by decide +kernel) hown hK hP (by omega) hw.1 rfl (by decide) (by decide +kernel) rfl rfl dX1_unit_4 ?_
      refine n_ge (tgt := 26) hx hb dX1_unit_7 (by decide) (by omega) (by omega) (fun h_7 => ?_) (fun h_7 => ?_)
      · refine lv_bipush (v := (-9)) hx hb dX1_unit_26 (by decide) ?_
        exact g_iret hx hb hrt hlocks dX1_unit_28 (by rw [show unt nn c0 = none from fl_no (fun j h1 h2 => hno j h1 (by omega))]; rfl)
      · refine lv_aload_n hx hb dX1_unit_10 rfl (lv_at hl 0 rfl) ?_
        refine lv_iload_n hx hb dX1_unit_11 rfl (lv_at hl 1 rfl) ?_
        refine g_callV (b) (C := RX1) (T := TX1) (N := 4) (ci := 0) (As := [.int (nI (x))]) (rest := []) (c_X1_isUnit l hI hbn hw (X := x) ht hnn hcb (by omega)) (cwV 1 hts gX1_unit_X1_isUnit rfl rfl rfl (by decide +kernel) ⟨Nat.le_of_ble_eq_true rfl, Nat.le_of_ble_eq_true rfl⟩) hx hb hml hown hts hK hP  (by omega) hw.1 rfl rfl hl.1 rfl (Nat.le_of_ble_eq_true rfl) (Nat.zero_le _) (Nat.zero_le _) dX1_unit_12 ?_
        refine n_ifeq_b (tgt := 20) hx hb dX1_unit_15 (by decide) (fun h_15 => ?_) (fun h_15 => ?_)
        · refine n_iinc 1 1 (lv' := [(1, .int (nI (x + 1))), (0, .ref (ad (b)))]) hx hb dX1_unit_20 hl rfl (by decide) rfl (fun ls hl => ?_)
          refine n_goto 2 hx hb dX1_unit_23 (by decide) ?_
          exact ih_2 (x + 1) (by omega) (by omega) (no_s hno h_15) _ (lv_sub hl [1, 0] rfl)
        · refine lv_iload_n hx hb dX1_unit_18 rfl (lv_at hl 1 rfl) ?_
          exact g_iret hx hb hrt hlocks dX1_unit_19 (by rw [show unt nn c0 = some x from fl_at (Nat.zero_le _) (by omega) h_15 hno]; rfl)
  exact L_2 (2 ^ nn + 1) (0) (Nat.zero_le _) (by omega) (fun j h1 h2 => absurd h2 (by omega)) _ (lv_sub hl [1, 0] rfl)
set_option maxHeartbeats 4000000 in
set_option maxRecDepth 100000 in
theorem c_X1_solve (l : Launch) {D : va_G} {tys : List (ClassId × FieldType)} {ad : Nat → Nat} {n : Nat} {E : Nat → va_E} {cI : ClassId} {t0 b nn : Nat} {c0 tt : Nat → Nat} (hI : tys[t0]? = some (cI, .int)) (hbn : b + 2 < n) (hw : isW cI ad E b nn c0 tt) {X Z : Nat} {L : Bool} (ht : tOK nn c0 tt) (hnn : nn ≤ 4) (hcb : CB nn c0) (hX : X < 2 ^ nn) (hZ : Z < 2 ^ nn) : Met l yX1_solve wsX1_solve ({ frames := 2, cells := 0, slots := 0, locals := 43 } : Room) (va_Pc [.ref (ad (b)), .int (nI (X)), .int (nI (Z)), .int (bI (L))] (PB D tys n ad (E))) (k2_QcV (.int (oI (slv nn c0 X Z L)))) 0 0 (fun _ => False) := by
  have p4 := pow4 hnn
  have p0 : 0 < 2 ^ nn := Nat.pow_pos (by decide)
  refine g_pure (cc := cX1_solve) (maxL := 7) (ret := (some .int)) (by decide) rfl (Nat.le_of_ble_eq_true rfl) ?_
  intro p e s m args below meth c hx hb hrt hts hown hlocks hml hP hK ls hl
  show W p l e ({ frames := 2, cells := 0, slots := 0, locals := 43 } : Room) s m args below meth c s.heap [] 0 0 _ _
  have hl : lv_has ls 7 [(0, .ref (ad (b))), (1, .int (nI (X))), (2, .int (nI (Z))), (3, .int (bI (L)))] := hl
  refine lv_bipush (v := (-9)) hx hb dX1_solve_0 (by decide) ?_
  refine lv_istore (lv' := [(4, .int ((-9))), (0, .ref (ad (b))), (1, .int (nI (X))), (2, .int (nI (Z))), (3, .int (bI (L)))]) hx hb dX1_solve_2 hl (by decide) rfl (fun ls hl => ?_)
  refine n_iconst 0 hx hb dX1_solve_4 ?_
  refine lv_istore (lv' := [(5, .int (nI (0))), (4, .int ((-9))), (0, .ref (ad (b))), (1, .int (nI (X))), (2, .int (nI (Z))), (3, .int (bI (L)))]) hx hb dX1_solve_5 hl (by decide) rfl (fun ls hl => ?_)
  have L_7 : ∀ (r : Nat) (fo : Option Nat) (y : Nat), (y ≤ 2 ^ nn) → (2 ^ nn < y + r) → (fo = fl (slp nn c0 X Z L) 0 y) → (cnt (slp nn c0 X Z L) y = if fo = none then 0 else 1) → ∀ (ls : Array Slot), lv_has ls 7 [(0, .ref (ad (b))), (1, .int (nI (X))), (2, .int (nI (Z))), (3, .int (bI (L))), (4, .int (oI (fo))), (5, .int (nI (y)))] → W p l e ({ frames := 2, cells := 0, slots := 0, locals := 43 } : Room) s m args below meth c s.heap [] 0 0 (MQ below (k2_QcV (.int (oI (slv nn c0 X Z L)))) args s 0 0 (fun _ => False)) (F0 m 7 ls []) := by
    intro r
    induction r with
    | zero => intro fo y hy hr hf hc; intros; exact absurd hr (by omega)
    | succ r ih =>
      intro fo y hy hr hf hc ls hl
      have ih_7 := ih
      refine lv_iload hx hb dX1_solve_7 (lv_at hl 5 rfl) ?_
      refine lv_aload_n hx hb dX1_solve_9 rfl (lv_at hl 0 rfl) ?_
      refine g_get (b) 1 (C := RX1) (T := TX1) (N := 4) (ci := 0) (ref := "CubeWorlds$World") hx hb hts (by decide +kernel) hown hK hP (by omega) hw.1 rfl (by decide) (by decide +kernel) rfl rfl dX1_solve_10 ?_
      refine n_ge (tgt := 65) hx hb dX1_solve_13 (by decide) (by omega) (by omega) (fun h_13 => ?_) (fun h_13 => ?_)
      · refine lv_iload hx hb dX1_solve_65 (lv_at hl 4 rfl) ?_
        exact g_iret hx hb hrt hlocks dX1_solve_67 (by rw [show slv nn c0 X Z L = fo from slv_end hf hc (by omega)])
      · refine lv_iload_n hx hb dX1_solve_16 rfl (lv_at hl 3 rfl) ?_
        refine n_ifeq_b (tgt := 30) hx hb dX1_solve_17 (by decide) (fun h_17 => ?_) (fun h_17 => ?_)
        · refine lv_aload_n hx hb dX1_solve_30 rfl (lv_at hl 0 rfl) ?_
          refine lv_iload hx hb dX1_solve_31 (lv_at hl 5 rfl) ?_
          refine lv_iload_n hx hb dX1_solve_33 rfl (lv_at hl 1 rfl) ?_
          refine g_callV (b) (C := RX1) (T := TX1) (N := 4) (ci := 0) (As := [.int (nI (y)), .int (nI (X))]) (rest := []) (c_X1_times l hI hbn hw (X := y) (Y := X) ht hnn (by omega) (by omega)) (cwV 2 hts gX1_solve_X1_times rfl rfl rfl (by decide +kernel) ⟨Nat.le_of_ble_eq_true rfl, Nat.le_of_ble_eq_true rfl⟩) hx hb hml hown hts hK hP  (by omega) hw.1 rfl rfl hl.1 rfl (Nat.le_of_ble_eq_true rfl) (Nat.zero_le _) (Nat.zero_le _) dX1_solve_34 ?_
          refine lv_istore (lv' := [(6, .int (nI (tm nn c0 y X))), (0, .ref (ad (b))), (1, .int (nI (X))), (2, .int (nI (Z))), (3, .int (bI (L))), (4, .int (oI (fo))), (5, .int (nI (y)))]) hx hb dX1_solve_37 hl (by decide) rfl (fun ls hl => ?_)
          refine lv_iload hx hb dX1_solve_39 (lv_at hl 0 rfl) ?_
          have hm9 := tm_lt hcb y X
          refine lv_iload_n hx hb dX1_solve_41 rfl (lv_at hl 3 rfl) ?_
          refine n_cne (tgt := 59) hx hb dX1_solve_42 (by decide) (by omega) (by omega) (fun h_42 => ?_) (fun h_42 => ?_)
          · refine n_iinc 6 1 (lv' := [(5, .int (nI (y + 1))), (6, .int (nI (tm nn c0 y X))), (0, .ref (ad (b))), (1, .int (nI (X))), (2, .int (nI (Z))), (3, .int (bI (L))), (4, .int (oI (fo)))]) hx hb dX1_solve_59 hl rfl (by decide) rfl (fun ls hl => ?_)
            refine n_goto 7 hx hb dX1_solve_62 (by decide) ?_
            exact ih_7 (fo) (y + 1) (by omega) (by omega) (slv_mis1 hf (slp_fn h_17 h_42)) (slv_mis2 hc (slp_fn h_17 h_42)) _ (lv_sub hl [2, 3, 4, 5, 6, 0] rfl)
          · refine lv_iload hx hb dX1_solve_45 (lv_at hl 5 rfl) ?_
            refine lv_bipush (v := (-9)) hx hb dX1_solve_47 (by decide) ?_
            refine n_ceq_o (tgt := 55) hx hb dX1_solve_49 (by decide) (fun k hk => by rw [hf] at hk; have := (fl_some hk).2.1; omega) (fun h_49 => ?_) (fun h_49 => ?_)
            · refine lv_iload hx hb dX1_solve_55 (lv_at hl 6 rfl) ?_
              refine n_eq (show nI y = oI (some y) from rfl) ?_
              refine lv_istore (lv' := [(4, .int (oI (some y))), (6, .int (nI (tm nn c0 y X))), (0, .ref (ad (b))), (1, .int (nI (X))), (2, .int (nI (Z))), (3, .int (bI (L))), (5, .int (nI (y)))]) hx hb dX1_solve_57 hl (by decide) rfl (fun ls hl => ?_)
              refine n_iinc 6 1 (lv' := [(5, .int (nI (y + 1))), (4, .int (oI (some y))), (6, .int (nI (tm nn c0 y X))), (0, .ref (ad (b))), (1, .int (nI (X))), (2, .int (nI (Z))), (3, .int (bI (L)))]) hx hb dX1_solve_59 hl rfl (by decide) rfl (fun ls hl => ?_)
              refine n_goto 7 hx hb dX1_solve_62 (by decide) ?_
              exact ih_7 (some y) (y + 1) (by omega) (by omega) (slv_hit1 h_49 hf (slp_f h_17 h_42)) (slv_hit2 h_49 hc (slp_f h_17 h_42)) _ (lv_sub hl [3, 4, 5, 6, 1, 0] rfl)
            · refine lv_bipush (v := (-9)) hx hb dX1_solve_52 (by decide) ?_
              exact g_iret hx hb hrt hlocks dX1_solve_54 (by rw [show slv nn c0 X Z L = none from slv_two h_49 hc (slp_f h_17 h_42) (by omega)]; rfl)
        · refine lv_aload_n hx hb dX1_solve_20 rfl (lv_at hl 0 rfl) ?_
          refine lv_iload_n hx hb dX1_solve_21 rfl (lv_at hl 1 rfl) ?_
          refine lv_iload hx hb dX1_solve_22 (lv_at hl 5 rfl) ?_
          refine g_callV (b) (C := RX1) (T := TX1) (N := 4) (ci := 0) (As := [.int (nI (X)), .int (nI (y))]) (rest := []) (c_X1_times l hI hbn hw (X := X) (Y := y) ht hnn (by omega) (by omega)) (cwV 2 hts gX1_solve_X1_times rfl rfl rfl (by decide +kernel) ⟨Nat.le_of_ble_eq_true rfl, Nat.le_of_ble_eq_true rfl⟩) hx hb hml hown hts hK hP  (by omega) hw.1 rfl rfl hl.1 rfl (Nat.le_of_ble_eq_true rfl) (Nat.zero_le _) (Nat.zero_le _) dX1_solve_24 ?_
          refine n_goto 37 hx hb dX1_solve_27 (by decide) ?_
          refine lv_istore (lv' := [(6, .int (nI (tm nn c0 X y))), (0, .ref (ad (b))), (1, .int (nI (X))), (2, .int (nI (Z))), (3, .int (bI (L))), (4, .int (oI (fo))), (5, .int (nI (y)))]) hx hb dX1_solve_37 hl (by decide) rfl (fun ls hl => ?_)
          refine lv_iload hx hb dX1_solve_39 (lv_at hl 0 rfl) ?_
          have hm9 := tm_lt hcb X y
          refine lv_iload_n hx hb dX1_solve_41 rfl (lv_at hl 3 rfl) ?_
          refine n_cne (tgt := 59) hx hb dX1_solve_42 (by decide) (by omega) (by omega) (fun h_42 => ?_) (fun h_42 => ?_)
          · refine n_iinc 6 1 (lv' := [(5, .int (nI (y + 1))), (6, .int (nI (tm nn c0 X y))), (0, .ref (ad (b))), (1, .int (nI (X))), (2, .int (nI (Z))), (3, .int (bI (L))), (4, .int (oI (fo)))]) hx hb dX1_solve_59 hl rfl (by decide) rfl (fun ls hl => ?_)
            refine n_goto 7 hx hb dX1_solve_62 (by decide) ?_
            exact ih_7 (fo) (y + 1) (by omega) (by omega) (slv_mis1 hf (slp_tn h_17 h_42)) (slv_mis2 hc (slp_tn h_17 h_42)) _ (lv_sub hl [2, 3, 4, 5, 6, 0] rfl)
          · refine lv_iload hx hb dX1_solve_45 (lv_at hl 5 rfl) ?_
            refine lv_bipush (v := (-9)) hx hb dX1_solve_47 (by decide) ?_
            refine n_ceq_o (tgt := 55) hx hb dX1_solve_49 (by decide) (fun k hk => by rw [hf] at hk; have := (fl_some hk).2.1; omega) (fun h_49 => ?_) (fun h_49 => ?_)
            · refine lv_iload hx hb dX1_solve_55 (lv_at hl 6 rfl) ?_
              refine n_eq (show nI y = oI (some y) from rfl) ?_
              refine lv_istore (lv' := [(4, .int (oI (some y))), (6, .int (nI (tm nn c0 X y))), (0, .ref (ad (b))), (1, .int (nI (X))), (2, .int (nI (Z))), (3, .int (bI (L))), (5, .int (nI (y)))]) hx hb dX1_solve_57 hl (by decide) rfl (fun ls hl => ?_)
              refine n_iinc 6 1 (lv' := [(5, .int (nI (y + 1))), (4, .int (oI (some y))), (6, .int (nI (tm nn c0 X y))), (0, .ref (ad (b))), (1, .int (nI (X))), (2, .int (nI (Z))), (3, .int (bI (L)))]) hx hb dX1_solve_59 hl rfl (by decide) rfl (fun ls hl => ?_)
              refine n_goto 7 hx hb dX1_solve_62 (by decide) ?_
              exact ih_7 (some y) (y + 1) (by omega) (by omega) (slv_hit1 h_49 hf (slp_t h_17 h_42)) (slv_hit2 h_49 hc (slp_t h_17 h_42)) _ (lv_sub hl [3, 4, 5, 6, 1, 0] rfl)
            · refine lv_bipush (v := (-9)) hx hb dX1_solve_52 (by decide) ?_
              exact g_iret hx hb hrt hlocks dX1_solve_54 (by rw [show slv nn c0 X Z L = none from slv_two h_49 hc (slp_t h_17 h_42) (by omega)]; rfl)
  exact L_7 (2 ^ nn + 1) (none) (0) (Nat.zero_le _) (by omega) rfl rfl _ (lv_sub hl [2, 3, 4, 5, 1, 0] rfl)
set_option maxHeartbeats 4000000 in
set_option maxRecDepth 100000 in
theorem c_X1_commutes (l : Launch) {D : va_G} {tys : List (ClassId × FieldType)} {ad : Nat → Nat} {n : Nat} {E : Nat → va_E} {cI : ClassId} {t0 b nn : Nat} {c0 tt : Nat → Nat} (hI : tys[t0]? = some (cI, .int)) (hbn : b + 2 < n) (hw : isW cI ad E b nn c0 tt) {X : Nat} (ht : tOK nn c0 tt) (hnn : nn ≤ 4) (hcb : CB nn c0) (hX : X < 2 ^ nn) : Met l yX1_commutes wsX1_commutes ({ frames := 2, cells := 0, slots := 0, locals := 43 } : Room) (va_Pc [.ref (ad (b)), .int (nI (X))] (PB D tys n ad (E))) (k2_QcV (.int (bI (comB nn c0 X)))) 0 0 (fun _ => False) := by
  have p4 := pow4 hnn
  have p0 : 0 < 2 ^ nn := Nat.pow_pos (by decide)
  refine g_pure (cc := cX1_commutes) (maxL := 3) (ret := (some .boolean)) (by decide) rfl (Nat.le_of_ble_eq_true rfl) ?_
  intro p e s m args below meth c hx hb hrt hts hown hlocks hml hP hK ls hl
  show W p l e ({ frames := 2, cells := 0, slots := 0, locals := 43 } : Room) s m args below meth c s.heap [] 0 0 _ _
  have hl : lv_has ls 3 [(0, .ref (ad (b))), (1, .int (nI (X)))] := hl
  refine n_iconst 0 hx hb dX1_commutes_0 ?_
  refine lv_istore_n (lv' := [(2, .int (nI (0))), (0, .ref (ad (b))), (1, .int (nI (X)))]) hx hb dX1_commutes_1 rfl hl (by decide) rfl (fun ls hl => ?_)
  have L_2 : ∀ (r : Nat) (y : Nat), (y ≤ nn) → (nn < y + r) → (∀ j, j < y → (tm nn c0 X (1 <<< j) == tm nn c0 (1 <<< j) X) = true) → ∀ (ls : Array Slot), lv_has ls 3 [(0, .ref (ad (b))), (1, .int (nI (X))), (2, .int (nI (y)))] → W p l e ({ frames := 2, cells := 0, slots := 0, locals := 43 } : Room) s m args below meth c s.heap [] 0 0 (MQ below (k2_QcV (.int (bI (comB nn c0 X)))) args s 0 0 (fun _ => False)) (F0 m 2 ls []) := by
    intro r
    induction r with
    | zero => intro y hy hr hno; intros; exact absurd hr (by omega)
    | succ r ih =>
      intro y hy hr hno ls hl
      have ih_2 := ih
      refine lv_iload_n hx hb dX1_commutes_2 rfl (lv_at hl 2 rfl) ?_
      refine lv_aload_n hx hb dX1_commutes_3 rfl (lv_at hl 0 rfl) ?_
      refine g_get (b) 0 (C := RX1) (T := TX1) (N := 4) (ci := 0) (ref := "CubeWorlds$World") hx hb hts (by decide +kernel) hown hK hP (by omega) hw.1 rfl (by decide) (by decide +kernel) rfl rfl dX1_commutes_4 ?_
      refine n_ge (tgt := 37) hx hb dX1_commutes_7 (by decide) (by omega) (by omega) (fun h_7 => ?_) (fun h_7 => ?_)
      · refine n_iconst 1 hx hb dX1_commutes_37 ?_
        exact g_zret (true) hx hb hrt hlocks dX1_commutes_38 rfl (by rw [show comB nn c0 X = true from al_yes (fun k hk => hno k (by omega))])
      · refine lv_aload_n hx hb dX1_commutes_10 rfl (lv_at hl 0 rfl) ?_
        refine lv_iload_n hx hb dX1_commutes_11 rfl (lv_at hl 1 rfl) ?_
        have hs9 := shl1_lt (k := y) (n := nn) (by omega)
        refine n_iconst 1 hx hb dX1_commutes_12 ?_
        refine lv_iload_n hx hb dX1_commutes_13 rfl (lv_at hl 2 rfl) ?_
        refine n_ishl hx hb dX1_commutes_14 (by omega) ?_
        refine g_callV (b) (C := RX1) (T := TX1) (N := 4) (ci := 0) (As := [.int (nI (X)), .int (nI (1 <<< y))]) (rest := []) (c_X1_times l hI hbn hw (X := X) (Y := 1 <<< y) ht hnn (by omega) (by omega)) (cwV 2 hts gX1_commutes_X1_times rfl rfl rfl (by decide +kernel) ⟨Nat.le_of_ble_eq_true rfl, Nat.le_of_ble_eq_true rfl⟩) hx hb hml hown hts hK hP  (by omega) hw.1 rfl rfl hl.1 rfl (Nat.le_of_ble_eq_true rfl) (Nat.zero_le _) (Nat.zero_le _) dX1_commutes_15 ?_
        refine lv_aload_n hx hb dX1_commutes_18 rfl (lv_at hl 0 rfl) ?_
        refine n_iconst 1 hx hb dX1_commutes_19 ?_
        refine lv_iload_n hx hb dX1_commutes_20 rfl (lv_at hl 2 rfl) ?_
        refine n_ishl hx hb dX1_commutes_21 (by omega) ?_
        refine lv_iload_n hx hb dX1_commutes_22 rfl (lv_at hl 1 rfl) ?_
        refine g_callV (b) (C := RX1) (T := TX1) (N := 4) (ci := 0) (As := [.int (nI (1 <<< y)), .int (nI (X))]) (rest := [.int (nI (tm nn c0 X (1 <<< y)))]) (c_X1_times l hI hbn hw (X := 1 <<< y) (Y := X) ht hnn (by omega) (by omega)) (cwV 2 hts gX1_commutes_X1_times rfl rfl rfl (by decide +kernel) ⟨Nat.le_of_ble_eq_true rfl, Nat.le_of_ble_eq_true rfl⟩) hx hb hml hown hts hK hP  (by omega) hw.1 rfl rfl hl.1 rfl (Nat.le_of_ble_eq_true rfl) (Nat.zero_le _) (Nat.zero_le _) dX1_commutes_23 ?_
        have hm9 := tm_lt hcb X (1 <<< y)
        have hm8 := tm_lt hcb (1 <<< y) X
        refine n_ceq (tgt := 31) hx hb dX1_commutes_26 (by decide) (by omega) (by omega) (fun h_26 => ?_) (fun h_26 => ?_)
        · refine n_iinc 2 1 (lv' := [(2, .int (nI (y + 1))), (0, .ref (ad (b))), (1, .int (nI (X)))]) hx hb dX1_commutes_31 hl rfl (by decide) rfl (fun ls hl => ?_)
          refine n_goto 2 hx hb dX1_commutes_34 (by decide) ?_
          exact ih_2 (y + 1) (by omega) (by omega) (ya_s hno (bT h_26)) _ (lv_sub hl [1, 2, 0] rfl)
        · refine n_iconst 0 hx hb dX1_commutes_29 ?_
          exact g_zret (false) hx hb hrt hlocks dX1_commutes_30 rfl (by rw [show comB nn c0 X = false from al_no (k := y) (by omega) (bF h_26)])
  exact L_2 (nn + 1) (0) (Nat.zero_le _) (by omega) (fun j h => absurd h (by omega)) _ (lv_sub hl [1, 2, 0] rfl)
set_option maxHeartbeats 4000000 in
set_option maxRecDepth 100000 in
theorem c_X1_isOneProduct (l : Launch) {D : va_G} {tys : List (ClassId × FieldType)} {ad : Nat → Nat} {n : Nat} {E : Nat → va_E} {cI : ClassId} {t0 b nn : Nat} {c0 tt : Nat → Nat} (hI : tys[t0]? = some (cI, .int)) (hbn : b + 2 < n) (hw : isW cI ad E b nn c0 tt) {X Y Z : Nat} (ht : tOK nn c0 tt) (hnn : nn ≤ 4) (hcb : CB nn c0) (hX : X < 2 ^ nn) (hY : Y < 2 ^ nn) (hZ : Z < 2 ^ nn) : Met l yX1_isOneProduct wsX1_isOneProduct ({ frames := 2, cells := 0, slots := 0, locals := 43 } : Room) (va_Pc [.ref (ad (b)), .int (nI (X)), .int (nI (Y)), .int (nI (Z))] (PB D tys n ad (E))) (k2_QcV (.int (bI (iop nn c0 X Y Z)))) 0 0 (fun _ => False) := by
  have p4 := pow4 hnn
  have p0 : 0 < 2 ^ nn := Nat.pow_pos (by decide)
  have m1 := tm_lt hcb Y Z
  have m2 := tm_lt hcb X Y
  have m3 := tm_lt hcb X (tm nn c0 Y Z)
  have m4 := tm_lt hcb (tm nn c0 X Y) Z
  refine g_pure (cc := cX1_isOneProduct) (maxL := 4) (ret := (some .boolean)) (by decide) rfl (Nat.le_of_ble_eq_true rfl) ?_
  intro p e s m args below meth c hx hb hrt hts hown hlocks hml hP hK ls hl
  show W p l e ({ frames := 2, cells := 0, slots := 0, locals := 43 } : Room) s m args below meth c s.heap [] 0 0 _ _
  have hl : lv_has ls 4 [(0, .ref (ad (b))), (1, .int (nI (X))), (2, .int (nI (Y))), (3, .int (nI (Z)))] := hl
  refine lv_aload_n hx hb dX1_isOneProduct_0 rfl (lv_at hl 0 rfl) ?_
  refine lv_iload_n hx hb dX1_isOneProduct_1 rfl (lv_at hl 1 rfl) ?_
  refine lv_aload_n hx hb dX1_isOneProduct_2 rfl (lv_at hl 0 rfl) ?_
  refine lv_iload_n hx hb dX1_isOneProduct_3 rfl (lv_at hl 2 rfl) ?_
  refine lv_iload_n hx hb dX1_isOneProduct_4 rfl (lv_at hl 3 rfl) ?_
  refine g_callV (b) (C := RX1) (T := TX1) (N := 4) (ci := 0) (As := [.int (nI (Y)), .int (nI (Z))]) (rest := [.int (nI (X)), .ref (ad (b))]) (c_X1_times l hI hbn hw (X := Y) (Y := Z) ht hnn (by omega) (by omega)) (cwV 2 hts gX1_isOneProduct_X1_times rfl rfl rfl (by decide +kernel) ⟨Nat.le_of_ble_eq_true rfl, Nat.le_of_ble_eq_true rfl⟩) hx hb hml hown hts hK hP  (by omega) hw.1 rfl rfl hl.1 rfl (Nat.le_of_ble_eq_true rfl) (Nat.zero_le _) (Nat.zero_le _) dX1_isOneProduct_5 ?_
  refine g_callV (b) (C := RX1) (T := TX1) (N := 4) (ci := 0) (As := [.int (nI (X)), .int (nI (tm nn c0 Y Z))]) (rest := []) (c_X1_times l hI hbn hw (X := X) (Y := tm nn c0 Y Z) ht hnn (by omega) (by omega)) (cwV 2 hts gX1_isOneProduct_X1_times rfl rfl rfl (by decide +kernel) ⟨Nat.le_of_ble_eq_true rfl, Nat.le_of_ble_eq_true rfl⟩) hx hb hml hown hts hK hP  (by omega) hw.1 rfl rfl hl.1 rfl (Nat.le_of_ble_eq_true rfl) (Nat.zero_le _) (Nat.zero_le _) dX1_isOneProduct_8 ?_
  refine lv_aload_n hx hb dX1_isOneProduct_11 rfl (lv_at hl 0 rfl) ?_
  refine lv_aload_n hx hb dX1_isOneProduct_12 rfl (lv_at hl 0 rfl) ?_
  refine lv_iload_n hx hb dX1_isOneProduct_13 rfl (lv_at hl 1 rfl) ?_
  refine lv_iload_n hx hb dX1_isOneProduct_14 rfl (lv_at hl 2 rfl) ?_
  refine g_callV (b) (C := RX1) (T := TX1) (N := 4) (ci := 0) (As := [.int (nI (X)), .int (nI (Y))]) (rest := [.ref (ad (b)), .int (nI (tm nn c0 X (tm nn c0 Y Z)))]) (c_X1_times l hI hbn hw (X := X) (Y := Y) ht hnn (by omega) (by omega)) (cwV 2 hts gX1_isOneProduct_X1_times rfl rfl rfl (by decide +kernel) ⟨Nat.le_of_ble_eq_true rfl, Nat.le_of_ble_eq_true rfl⟩) hx hb hml hown hts hK hP  (by omega) hw.1 rfl rfl hl.1 rfl (Nat.le_of_ble_eq_true rfl) (Nat.zero_le _) (Nat.zero_le _) dX1_isOneProduct_15 ?_
  refine lv_iload_n hx hb dX1_isOneProduct_18 rfl (lv_at hl 3 rfl) ?_
  refine g_callV (b) (C := RX1) (T := TX1) (N := 4) (ci := 0) (As := [.int (nI (tm nn c0 X Y)), .int (nI (Z))]) (rest := [.int (nI (tm nn c0 X (tm nn c0 Y Z)))]) (c_X1_times l hI hbn hw (X := tm nn c0 X Y) (Y := Z) ht hnn (by omega) (by omega)) (cwV 2 hts gX1_isOneProduct_X1_times rfl rfl rfl (by decide +kernel) ⟨Nat.le_of_ble_eq_true rfl, Nat.le_of_ble_eq_true rfl⟩) hx hb hml hown hts hK hP  (by omega) hw.1 rfl rfl hl.1 rfl (Nat.le_of_ble_eq_true rfl) (Nat.zero_le _) (Nat.zero_le _) dX1_isOneProduct_19 ?_
  refine n_cne (tgt := 29) hx hb dX1_isOneProduct_22 (by decide) (by omega) (by omega) (fun h_22 => ?_) (fun h_22 => ?_)
  · refine n_iconst 0 hx hb dX1_isOneProduct_29 ?_
    exact g_zret (false) hx hb hrt hlocks dX1_isOneProduct_30 rfl (by rw [show iop nn c0 X Y Z = false from bF h_22])
  · refine n_iconst 1 hx hb dX1_isOneProduct_25 ?_
    refine n_goto 30 hx hb dX1_isOneProduct_26 (by decide) ?_
    exact g_zret (true) hx hb hrt hlocks dX1_isOneProduct_30 rfl (by rw [show iop nn c0 X Y Z = true from bT h_22])
set_option maxHeartbeats 4000000 in
set_option maxRecDepth 100000 in
theorem c_X1_associatesWith (l : Launch) {D : va_G} {tys : List (ClassId × FieldType)} {ad : Nat → Nat} {n : Nat} {E : Nat → va_E} {cI : ClassId} {t0 b nn : Nat} {c0 tt : Nat → Nat} (hI : tys[t0]? = some (cI, .int)) (hbn : b + 2 < n) (hw : isW cI ad E b nn c0 tt) {X Y Z V : Nat} (ht : tOK nn c0 tt) (hnn : nn ≤ 4) (hcb : CB nn c0) (hX : X < 2 ^ nn) (hY : Y < 2 ^ nn) (hZ : Z < 2 ^ nn) (hV : V < 3) : Met l yX1_associatesWith wsX1_associatesWith ({ frames := 3, cells := 0, slots := 0, locals := 66 } : Room) (va_Pc [.ref (ad (b)), .int (nI (X)), .int (nI (Y)), .int (nI (Z)), .int (nI (V))] (PB D tys n ad (E))) (k2_QcV (.int (bI (asw nn c0 X Y Z V)))) 0 0 (fun _ => False) := by
  refine g_pure (cc := cX1_associatesWith) (maxL := 5) (ret := (some .boolean)) (by decide) rfl (Nat.le_of_ble_eq_true rfl) ?_
  intro p e s m args below meth c hx hb hrt hts hown hlocks hml hP hK ls hl
  show W p l e ({ frames := 3, cells := 0, slots := 0, locals := 66 } : Room) s m args below meth c s.heap [] 0 0 _ _
  have hl : lv_has ls 5 [(0, .ref (ad (b))), (1, .int (nI (X))), (2, .int (nI (Y))), (3, .int (nI (Z))), (4, .int (nI (V)))] := hl
  refine lv_iload hx hb dX1_associatesWith_0 (lv_at hl 4 rfl) ?_
  rcases (show V = 0 ∨ V = 1 ∨ V = 2 by omega) with e9 | e9 | e9
  · subst e9
    refine lv_lookup (off := 26) (tgt := 28) hx hb dX1_associatesWith_2 (by decide) (by decide) (by decide) ?_
    refine lv_aload_n hx hb dX1_associatesWith_28 rfl (lv_at hl 0 rfl) ?_
    refine lv_iload_n hx hb dX1_associatesWith_29 rfl (lv_at hl 1 rfl) ?_
    refine lv_iload_n hx hb dX1_associatesWith_30 rfl (lv_at hl 2 rfl) ?_
    refine lv_iload_n hx hb dX1_associatesWith_31 rfl (lv_at hl 3 rfl) ?_
    refine g_callV (b) (C := RX1) (T := TX1) (N := 4) (ci := 0) (As := [.int (nI (X)), .int (nI (Y)), .int (nI (Z))]) (rest := []) (c_X1_isOneProduct l hI hbn hw (X := X) (Y := Y) (Z := Z) ht hnn hcb (by assumption) (by assumption) (by assumption)) (cwV 3 hts gX1_associatesWith_X1_isOneProduct rfl rfl rfl (by decide +kernel) ⟨Nat.le_of_ble_eq_true rfl, Nat.le_of_ble_eq_true rfl⟩) hx hb hml hown hts hK hP  (by omega) hw.1 rfl rfl hl.1 rfl (Nat.le_of_ble_eq_true rfl) (Nat.zero_le _) (Nat.zero_le _) dX1_associatesWith_32 ?_
    exact g_zret (iop nn c0 X Y Z) hx hb hrt hlocks dX1_associatesWith_35 rfl rfl
  · subst e9
    refine lv_lookup (off := 34) (tgt := 36) hx hb dX1_associatesWith_2 (by decide) (by decide) (by decide) ?_
    refine lv_aload_n hx hb dX1_associatesWith_36 rfl (lv_at hl 0 rfl) ?_
    refine lv_iload_n hx hb dX1_associatesWith_37 rfl (lv_at hl 2 rfl) ?_
    refine lv_iload_n hx hb dX1_associatesWith_38 rfl (lv_at hl 1 rfl) ?_
    refine lv_iload_n hx hb dX1_associatesWith_39 rfl (lv_at hl 3 rfl) ?_
    refine g_callV (b) (C := RX1) (T := TX1) (N := 4) (ci := 0) (As := [.int (nI (Y)), .int (nI (X)), .int (nI (Z))]) (rest := []) (c_X1_isOneProduct l hI hbn hw (X := Y) (Y := X) (Z := Z) ht hnn hcb (by assumption) (by assumption) (by assumption)) (cwV 3 hts gX1_associatesWith_X1_isOneProduct rfl rfl rfl (by decide +kernel) ⟨Nat.le_of_ble_eq_true rfl, Nat.le_of_ble_eq_true rfl⟩) hx hb hml hown hts hK hP  (by omega) hw.1 rfl rfl hl.1 rfl (Nat.le_of_ble_eq_true rfl) (Nat.zero_le _) (Nat.zero_le _) dX1_associatesWith_40 ?_
    exact g_zret (iop nn c0 Y X Z) hx hb hrt hlocks dX1_associatesWith_43 rfl rfl
  · subst e9
    refine lv_lookup (off := 42) (tgt := 44) hx hb dX1_associatesWith_2 (by decide) (by decide) (by decide) ?_
    refine lv_aload_n hx hb dX1_associatesWith_44 rfl (lv_at hl 0 rfl) ?_
    refine lv_iload_n hx hb dX1_associatesWith_45 rfl (lv_at hl 2 rfl) ?_
    refine lv_iload_n hx hb dX1_associatesWith_46 rfl (lv_at hl 3 rfl) ?_
    refine lv_iload_n hx hb dX1_associatesWith_47 rfl (lv_at hl 1 rfl) ?_
    refine g_callV (b) (C := RX1) (T := TX1) (N := 4) (ci := 0) (As := [.int (nI (Y)), .int (nI (Z)), .int (nI (X))]) (rest := []) (c_X1_isOneProduct l hI hbn hw (X := Y) (Y := Z) (Z := X) ht hnn hcb (by assumption) (by assumption) (by assumption)) (cwV 3 hts gX1_associatesWith_X1_isOneProduct rfl rfl rfl (by decide +kernel) ⟨Nat.le_of_ble_eq_true rfl, Nat.le_of_ble_eq_true rfl⟩) hx hb hml hown hts hK hP  (by omega) hw.1 rfl rfl hl.1 rfl (Nat.le_of_ble_eq_true rfl) (Nat.zero_le _) (Nat.zero_le _) dX1_associatesWith_48 ?_
    exact g_zret (iop nn c0 Y Z X) hx hb hrt hlocks dX1_associatesWith_51 rfl rfl
set_option maxHeartbeats 4000000 in
set_option maxRecDepth 100000 in
theorem c_X1_associates (l : Launch) {D : va_G} {tys : List (ClassId × FieldType)} {ad : Nat → Nat} {n : Nat} {E : Nat → va_E} {cI : ClassId} {t0 b nn : Nat} {c0 tt : Nat → Nat} (hI : tys[t0]? = some (cI, .int)) (hbn : b + 2 < n) (hw : isW cI ad E b nn c0 tt) {X V : Nat} (ht : tOK nn c0 tt) (hnn : nn ≤ 4) (hcb : CB nn c0) (hX : X < 2 ^ nn) (hV : V < 3) : Met l yX1_associates wsX1_associates ({ frames := 4, cells := 0, slots := 0, locals := 90 } : Room) (va_Pc [.ref (ad (b)), .int (nI (X)), .int (nI (V))] (PB D tys n ad (E))) (k2_QcV (.int (bI (assB nn c0 X V)))) 0 0 (fun _ => False) := by
  have p4 := pow4 hnn
  have p0 : 0 < 2 ^ nn := Nat.pow_pos (by decide)
  refine g_pure (cc := cX1_associates) (maxL := 5) (ret := (some .boolean)) (by decide) rfl (Nat.le_of_ble_eq_true rfl) ?_
  intro p e s m args below meth c hx hb hrt hts hown hlocks hml hP hK ls hl
  show W p l e ({ frames := 4, cells := 0, slots := 0, locals := 90 } : Room) s m args below meth c s.heap [] 0 0 _ _
  have hl : lv_has ls 5 [(0, .ref (ad (b))), (1, .int (nI (X))), (2, .int (nI (V)))] := hl
  refine n_iconst 0 hx hb dX1_associates_0 ?_
  refine lv_istore_n (lv' := [(3, .int (nI (0))), (0, .ref (ad (b))), (1, .int (nI (X))), (2, .int (nI (V)))]) hx hb dX1_associates_1 rfl hl (by decide) rfl (fun ls hl => ?_)
  have L_2 : ∀ (r : Nat) (i : Nat), (i ≤ nn) → (nn < i + r) → (∀ k, k < i → al (fun j => asw nn c0 X (1 <<< k) (1 <<< j) V) nn = true) → ∀ (ls : Array Slot), lv_has ls 5 [(0, .ref (ad (b))), (1, .int (nI (X))), (2, .int (nI (V))), (3, .int (nI (i)))] → W p l e ({ frames := 4, cells := 0, slots := 0, locals := 90 } : Room) s m args below meth c s.heap [] 0 0 (MQ below (k2_QcV (.int (bI (assB nn c0 X V)))) args s 0 0 (fun _ => False)) (F0 m 2 ls []) := by
    intro r
    induction r with
    | zero => intro i hi hr hno; intros; exact absurd hr (by omega)
    | succ r ih =>
      intro i hi hr hno ls hl
      have ih_2 := ih
      refine lv_iload_n hx hb dX1_associates_2 rfl (lv_at hl 3 rfl) ?_
      refine lv_aload_n hx hb dX1_associates_3 rfl (lv_at hl 0 rfl) ?_
      refine g_get (b) 0 (C := RX1) (T := TX1) (N := 4) (ci := 0) (ref := "CubeWorlds$World") hx hb hts (by decide +kernel) hown hK hP (by omega) hw.1 rfl (by decide) (by decide +kernel) rfl rfl dX1_associates_4 ?_
      refine n_ge (tgt := 52) hx hb dX1_associates_7 (by decide) (by omega) (by omega) (fun h_7 => ?_) (fun h_7 => ?_)
      · refine n_iconst 1 hx hb dX1_associates_52 ?_
        exact g_zret (true) hx hb hrt hlocks dX1_associates_53 rfl (by rw [show assB nn c0 X V = true from al_yes (fun k hk => hno k (by omega))])
      · refine n_iconst 0 hx hb dX1_associates_10 ?_
        refine lv_istore (lv' := [(4, .int (nI (0))), (0, .ref (ad (b))), (1, .int (nI (X))), (2, .int (nI (V))), (3, .int (nI (i)))]) hx hb dX1_associates_11 hl (by decide) rfl (fun ls hl => ?_)
        have L_13 : ∀ (r : Nat) (j : Nat), (j ≤ nn) → (nn < j + r) → (∀ k, k < j → asw nn c0 X (1 <<< i) (1 <<< k) V = true) → ∀ (ls : Array Slot), lv_has ls 5 [(0, .ref (ad (b))), (1, .int (nI (X))), (2, .int (nI (V))), (3, .int (nI (i))), (4, .int (nI (j)))] → W p l e ({ frames := 4, cells := 0, slots := 0, locals := 90 } : Room) s m args below meth c s.heap [] 0 0 (MQ below (k2_QcV (.int (bI (assB nn c0 X V)))) args s 0 0 (fun _ => False)) (F0 m 13 ls []) := by
          intro r
          induction r with
          | zero => intro j hj hr2 hno2; intros; exact absurd hr2 (by omega)
          | succ r ih =>
            intro j hj hr2 hno2 ls hl
            have ih_13 := ih
            refine lv_iload hx hb dX1_associates_13 (lv_at hl 4 rfl) ?_
            refine lv_aload_n hx hb dX1_associates_15 rfl (lv_at hl 0 rfl) ?_
            refine g_get (b) 0 (C := RX1) (T := TX1) (N := 4) (ci := 0) (ref := "CubeWorlds$World") hx hb hts (by decide +kernel) hown hK hP (by omega) hw.1 rfl (by decide) (by decide +kernel) rfl rfl dX1_associates_16 ?_
            refine n_ge (tgt := 46) hx hb dX1_associates_19 (by decide) (by omega) (by omega) (fun h_19 => ?_) (fun h_19 => ?_)
            · refine n_iinc 3 1 (lv' := [(3, .int (nI (i + 1))), (0, .ref (ad (b))), (1, .int (nI (X))), (2, .int (nI (V))), (4, .int (nI (j)))]) hx hb dX1_associates_46 hl rfl (by decide) rfl (fun ls hl => ?_)
              refine n_goto 2 hx hb dX1_associates_49 (by decide) ?_
              exact ih_2 (i + 1) (by omega) (by omega) (ya_s hno (al_yes (fun k hk => hno2 k (by omega)))) _ (lv_sub hl [1, 2, 3, 0] rfl)
            · refine lv_aload_n hx hb dX1_associates_22 rfl (lv_at hl 0 rfl) ?_
              refine lv_iload_n hx hb dX1_associates_23 rfl (lv_at hl 1 rfl) ?_
              refine n_iconst 1 hx hb dX1_associates_24 ?_
              refine lv_iload_n hx hb dX1_associates_25 rfl (lv_at hl 3 rfl) ?_
              refine n_ishl hx hb dX1_associates_26 (by omega) ?_
              refine n_iconst 1 hx hb dX1_associates_27 ?_
              refine lv_iload hx hb dX1_associates_28 (lv_at hl 4 rfl) ?_
              refine n_ishl hx hb dX1_associates_30 (by omega) ?_
              refine lv_iload_n hx hb dX1_associates_31 rfl (lv_at hl 2 rfl) ?_
              refine g_callV (b) (C := RX1) (T := TX1) (N := 4) (ci := 0) (As := [.int (nI (X)), .int (nI (1 <<< i)), .int (nI (1 <<< j)), .int (nI (V))]) (rest := []) (c_X1_associatesWith l hI hbn hw (X := X) (Y := 1 <<< i) (Z := 1 <<< j) (V := V) ht hnn hcb hX (shl1_lt (by omega)) (shl1_lt (by omega)) hV) (cwV 4 hts gX1_associates_X1_associatesWith rfl rfl rfl (by decide +kernel) ⟨Nat.le_of_ble_eq_true rfl, Nat.le_of_ble_eq_true rfl⟩) hx hb hml hown hts hK hP  (by omega) hw.1 rfl rfl hl.1 rfl (Nat.le_of_ble_eq_true rfl) (Nat.zero_le _) (Nat.zero_le _) dX1_associates_32 ?_
              refine n_ifne_b (tgt := 40) hx hb dX1_associates_35 (by decide) (fun h_35 => ?_) (fun h_35 => ?_)
              · refine n_iinc 4 1 (lv' := [(4, .int (nI (j + 1))), (0, .ref (ad (b))), (1, .int (nI (X))), (2, .int (nI (V))), (3, .int (nI (i)))]) hx hb dX1_associates_40 hl rfl (by decide) rfl (fun ls hl => ?_)
                refine n_goto 13 hx hb dX1_associates_43 (by decide) ?_
                exact ih_13 (j + 1) (by omega) (by omega) (ya_s hno2 h_35) _ (lv_sub hl [1, 2, 3, 4, 0] rfl)
              · refine n_iconst 0 hx hb dX1_associates_38 ?_
                exact g_zret (false) hx hb hrt hlocks dX1_associates_39 rfl (by rw [show assB nn c0 X V = false from al_no (k := i) (by omega) (al_no (k := j) (by omega) h_35)])
        exact L_13 (nn + 1) (0) (Nat.zero_le _) (by omega) (fun j h => absurd h (by omega)) _ (lv_sub hl [1, 2, 3, 4, 0] rfl)
  exact L_2 (nn + 1) (0) (Nat.zero_le _) (by omega) (fun j h => absurd h (by omega)) _ (lv_sub hl [1, 2, 3, 0] rfl)
set_option maxHeartbeats 4000000 in
set_option maxRecDepth 100000 in
theorem c_X1_joinsIn (l : Launch) {D : va_G} {tys : List (ClassId × FieldType)} {ad : Nat → Nat} {n : Nat} {E : Nat → va_E} {cI : ClassId} {t0 b nn : Nat} {c0 tt : Nat → Nat} (hI : tys[t0]? = some (cI, .int)) (hbn : b + 2 < n) (hw : isW cI ad E b nn c0 tt) {X V : Nat} (ht : tOK nn c0 tt) (hnn : nn ≤ 4) (hcb : CB nn c0) (hX : X < 2 ^ nn) (hV : V ≤ 3) : Met l yX1_joinsIn wsX1_joinsIn ({ frames := 5, cells := 0, slots := 0, locals := 114 } : Room) (va_Pc [.ref (ad (b)), .int (nI (X)), .int (nI (V))] (PB D tys n ad (E))) (k2_QcV (.int (bI (jnB nn c0 X V)))) 0 0 (fun _ => False) := by
  have p4 := pow4 hnn
  have p0 : 0 < 2 ^ nn := Nat.pow_pos (by decide)
  refine g_pure (cc := cX1_joinsIn) (maxL := 3) (ret := (some .boolean)) (by decide) rfl (Nat.le_of_ble_eq_true rfl) ?_
  intro p e s m args below meth c hx hb hrt hts hown hlocks hml hP hK ls hl
  show W p l e ({ frames := 5, cells := 0, slots := 0, locals := 114 } : Room) s m args below meth c s.heap [] 0 0 _ _
  have hl : lv_has ls 3 [(0, .ref (ad (b))), (1, .int (nI (X))), (2, .int (nI (V)))] := hl
  refine lv_iload_n hx hb dX1_joinsIn_0 rfl (lv_at hl 2 rfl) ?_
  refine n_iconst 3 hx hb dX1_joinsIn_1 ?_
  refine n_cne (tgt := 46) hx hb dX1_joinsIn_2 (by decide) (by omega) (by omega) (fun h_2 => ?_) (fun h_2 => ?_)
  · refine lv_aload_n hx hb dX1_joinsIn_46 rfl (lv_at hl 0 rfl) ?_
    refine lv_iload_n hx hb dX1_joinsIn_47 rfl (lv_at hl 1 rfl) ?_
    refine lv_iload_n hx hb dX1_joinsIn_48 rfl (lv_at hl 2 rfl) ?_
    refine g_callV (b) (C := RX1) (T := TX1) (N := 4) (ci := 0) (As := [.int (nI (X)), .int (nI (V))]) (rest := []) (c_X1_associates l hI hbn hw (X := X) (V := V) ht hnn hcb hX (by omega)) (cwV 2 hts gX1_joinsIn_X1_associates rfl rfl rfl (by decide +kernel) ⟨Nat.le_of_ble_eq_true rfl, Nat.le_of_ble_eq_true rfl⟩) hx hb hml hown hts hK hP  (by omega) hw.1 rfl rfl hl.1 rfl (Nat.le_of_ble_eq_true rfl) (Nat.zero_le _) (Nat.zero_le _) dX1_joinsIn_49 ?_
    exact g_zret (assB nn c0 X V) hx hb hrt hlocks dX1_joinsIn_52 rfl (by unfold jnB; rw [if_neg h_2])
  · refine lv_aload_n hx hb dX1_joinsIn_5 rfl (lv_at hl 0 rfl) ?_
    refine lv_iload_n hx hb dX1_joinsIn_6 rfl (lv_at hl 1 rfl) ?_
    refine g_callV (b) (C := RX1) (T := TX1) (N := 4) (ci := 0) (As := [.int (nI (X))]) (rest := []) (c_X1_commutes l hI hbn hw (X := X) ht hnn hcb hX) (cwV 1 hts gX1_joinsIn_X1_commutes rfl rfl rfl (by decide +kernel) ⟨Nat.le_of_ble_eq_true rfl, Nat.le_of_ble_eq_true rfl⟩) hx hb hml hown hts hK hP  (by omega) hw.1 rfl rfl hl.1 rfl (Nat.le_of_ble_eq_true rfl) (Nat.zero_le _) (Nat.zero_le _) dX1_joinsIn_7 ?_
    refine n_ifeq_b (tgt := 44) hx hb dX1_joinsIn_10 (by decide) (fun h_10 => ?_) (fun h_10 => ?_)
    · refine n_iconst 0 hx hb dX1_joinsIn_44 ?_
      exact g_zret (false) hx hb hrt hlocks dX1_joinsIn_45 rfl (by unfold jnB; rw [if_pos h_2, h_10]; first | rfl | simp)
    · refine lv_aload_n hx hb dX1_joinsIn_13 rfl (lv_at hl 0 rfl) ?_
      refine lv_iload_n hx hb dX1_joinsIn_14 rfl (lv_at hl 1 rfl) ?_
      refine n_iconst 0 hx hb dX1_joinsIn_15 ?_
      refine g_callV (b) (C := RX1) (T := TX1) (N := 4) (ci := 0) (As := [.int (nI (X)), .int (nI (0))]) (rest := []) (c_X1_associates l hI hbn hw (X := X) (V := 0) ht hnn hcb hX (by omega)) (cwV 2 hts gX1_joinsIn_X1_associates rfl rfl rfl (by decide +kernel) ⟨Nat.le_of_ble_eq_true rfl, Nat.le_of_ble_eq_true rfl⟩) hx hb hml hown hts hK hP  (by omega) hw.1 rfl rfl hl.1 rfl (Nat.le_of_ble_eq_true rfl) (Nat.zero_le _) (Nat.zero_le _) dX1_joinsIn_16 ?_
      refine n_ifeq_b (tgt := 44) hx hb dX1_joinsIn_19 (by decide) (fun h_19 => ?_) (fun h_19 => ?_)
      · refine n_iconst 0 hx hb dX1_joinsIn_44 ?_
        exact g_zret (false) hx hb hrt hlocks dX1_joinsIn_45 rfl (by unfold jnB; rw [if_pos h_2, h_10, h_19]; first | rfl | simp)
      · refine lv_aload_n hx hb dX1_joinsIn_22 rfl (lv_at hl 0 rfl) ?_
        refine lv_iload_n hx hb dX1_joinsIn_23 rfl (lv_at hl 1 rfl) ?_
        refine n_iconst 1 hx hb dX1_joinsIn_24 ?_
        refine g_callV (b) (C := RX1) (T := TX1) (N := 4) (ci := 0) (As := [.int (nI (X)), .int (nI (1))]) (rest := []) (c_X1_associates l hI hbn hw (X := X) (V := 1) ht hnn hcb hX (by omega)) (cwV 2 hts gX1_joinsIn_X1_associates rfl rfl rfl (by decide +kernel) ⟨Nat.le_of_ble_eq_true rfl, Nat.le_of_ble_eq_true rfl⟩) hx hb hml hown hts hK hP  (by omega) hw.1 rfl rfl hl.1 rfl (Nat.le_of_ble_eq_true rfl) (Nat.zero_le _) (Nat.zero_le _) dX1_joinsIn_25 ?_
        refine n_ifeq_b (tgt := 44) hx hb dX1_joinsIn_28 (by decide) (fun h_28 => ?_) (fun h_28 => ?_)
        · refine n_iconst 0 hx hb dX1_joinsIn_44 ?_
          exact g_zret (false) hx hb hrt hlocks dX1_joinsIn_45 rfl (by unfold jnB; rw [if_pos h_2, h_10, h_19, h_28]; first | rfl | simp)
        · refine lv_aload_n hx hb dX1_joinsIn_31 rfl (lv_at hl 0 rfl) ?_
          refine lv_iload_n hx hb dX1_joinsIn_32 rfl (lv_at hl 1 rfl) ?_
          refine n_iconst 2 hx hb dX1_joinsIn_33 ?_
          refine g_callV (b) (C := RX1) (T := TX1) (N := 4) (ci := 0) (As := [.int (nI (X)), .int (nI (2))]) (rest := []) (c_X1_associates l hI hbn hw (X := X) (V := 2) ht hnn hcb hX (by omega)) (cwV 2 hts gX1_joinsIn_X1_associates rfl rfl rfl (by decide +kernel) ⟨Nat.le_of_ble_eq_true rfl, Nat.le_of_ble_eq_true rfl⟩) hx hb hml hown hts hK hP  (by omega) hw.1 rfl rfl hl.1 rfl (Nat.le_of_ble_eq_true rfl) (Nat.zero_le _) (Nat.zero_le _) dX1_joinsIn_34 ?_
          refine n_ifeq_b (tgt := 44) hx hb dX1_joinsIn_37 (by decide) (fun h_37 => ?_) (fun h_37 => ?_)
          · refine n_iconst 0 hx hb dX1_joinsIn_44 ?_
            exact g_zret (false) hx hb hrt hlocks dX1_joinsIn_45 rfl (by unfold jnB; rw [if_pos h_2, h_10, h_19, h_28, h_37]; first | rfl | simp)
          · refine n_iconst 1 hx hb dX1_joinsIn_40 ?_
            refine n_goto 45 hx hb dX1_joinsIn_41 (by decide) ?_
            exact g_zret (true) hx hb hrt hlocks dX1_joinsIn_45 rfl (by unfold jnB; rw [if_pos h_2, h_10, h_19, h_28, h_37]; rfl)
set_option maxHeartbeats 4000000 in
set_option maxRecDepth 100000 in
theorem c_X1_countUnlike (l : Launch) {D : va_G} {tys : List (ClassId × FieldType)} {ad : Nat → Nat} {n : Nat} {E : Nat → va_E} {cI : ClassId} {t0 b nn : Nat} {c0 tt : Nat → Nat} (hI : tys[t0]? = some (cI, .int)) (hbn : b + 2 < n) (hw : isW cI ad E b nn c0 tt) (ht : tOK nn c0 tt) (hnn : nn ≤ 4) (hcb : CB nn c0) : Met l yX1_countUnlike wsX1_countUnlike ({ frames := 2, cells := 0, slots := 0, locals := 43 } : Room) (va_Pc [.ref (ad (b))] (PB D tys n ad (E))) (k2_QcV (.int (nI (unl nn c0)))) 0 0 (fun _ => False) := by
  have p4 := pow4 hnn
  have p0 : 0 < 2 ^ nn := Nat.pow_pos (by decide)
  refine g_pure (cc := cX1_countUnlike) (maxL := 4) (ret := (some .int)) (by decide) rfl (Nat.le_of_ble_eq_true rfl) ?_
  intro p e s m args below meth c hx hb hrt hts hown hlocks hml hP hK ls hl
  show W p l e ({ frames := 2, cells := 0, slots := 0, locals := 43 } : Room) s m args below meth c s.heap [] 0 0 _ _
  have hl : lv_has ls 4 [(0, .ref (ad (b)))] := hl
  refine n_iconst 0 hx hb dX1_countUnlike_0 ?_
  refine lv_istore_n (lv' := [(1, .int (nI (0))), (0, .ref (ad (b)))]) hx hb dX1_countUnlike_1 rfl hl (by decide) rfl (fun ls hl => ?_)
  refine n_iconst 0 hx hb dX1_countUnlike_2 ?_
  refine lv_istore_n (lv' := [(2, .int (nI (0))), (1, .int (nI (0))), (0, .ref (ad (b)))]) hx hb dX1_countUnlike_3 rfl hl (by decide) rfl (fun ls hl => ?_)
  have L_4 : ∀ (r : Nat) (acc : Nat) (x : Nat), (x ≤ 2 ^ nn) → (2 ^ nn < x + r) → (acc = sm (fun x => cnt (fun y => !(tm nn c0 x y == tm nn c0 y x)) (2 ^ nn)) x) → ∀ (ls : Array Slot), lv_has ls 4 [(0, .ref (ad (b))), (1, .int (nI (acc))), (2, .int (nI (x)))] → W p l e ({ frames := 2, cells := 0, slots := 0, locals := 43 } : Room) s m args below meth c s.heap [] 0 0 (MQ below (k2_QcV (.int (nI (unl nn c0)))) args s 0 0 (fun _ => False)) (F0 m 4 ls []) := by
    intro r
    induction r with
    | zero => intro acc x hx1 hr ha; intros; exact absurd hr (by omega)
    | succ r ih =>
      intro acc x hx1 hr ha ls hl
      have ih_4 := ih
      refine lv_iload_n hx hb dX1_countUnlike_4 rfl (lv_at hl 2 rfl) ?_
      refine lv_aload_n hx hb dX1_countUnlike_5 rfl (lv_at hl 0 rfl) ?_
      refine g_get (b) 1 (C := RX1) (T := TX1) (N := 4) (ci := 0) (ref := "CubeWorlds$World") hx hb hts (by decide +kernel) hown hK hP (by omega) hw.1 rfl (by decide) (by decide +kernel) rfl rfl dX1_countUnlike_6 ?_
      refine n_ge (tgt := 52) hx hb dX1_countUnlike_9 (by decide) (by omega) (by omega) (fun h_9 => ?_) (fun h_9 => ?_)
      · refine lv_iload_n hx hb dX1_countUnlike_52 rfl (lv_at hl 1 rfl) ?_
        exact g_iret hx hb hrt hlocks dX1_countUnlike_53 (by rw [ha, show x = 2 ^ nn by omega]; rfl)
      · refine n_iconst 0 hx hb dX1_countUnlike_12 ?_
        refine lv_istore_n (lv' := [(3, .int (nI (0))), (0, .ref (ad (b))), (1, .int (nI (acc))), (2, .int (nI (x)))]) hx hb dX1_countUnlike_13 rfl hl (by decide) rfl (fun ls hl => ?_)
        have L_14 : ∀ (r : Nat) (acc2 : Nat) (y : Nat), (y ≤ 2 ^ nn) → (2 ^ nn < y + r) → (acc2 = sm (fun x => cnt (fun y => !(tm nn c0 x y == tm nn c0 y x)) (2 ^ nn)) x + cnt (fun y => !(tm nn c0 x y == tm nn c0 y x)) y) → ∀ (ls : Array Slot), lv_has ls 4 [(0, .ref (ad (b))), (1, .int (nI (acc2))), (2, .int (nI (x))), (3, .int (nI (y)))] → W p l e ({ frames := 2, cells := 0, slots := 0, locals := 43 } : Room) s m args below meth c s.heap [] 0 0 (MQ below (k2_QcV (.int (nI (unl nn c0)))) args s 0 0 (fun _ => False)) (F0 m 14 ls []) := by
          intro r
          induction r with
          | zero => intro acc2 y hy hr2 ha2; intros; exact absurd hr2 (by omega)
          | succ r ih =>
            intro acc2 y hy hr2 ha2 ls hl
            have ih_14 := ih
            refine lv_iload_n hx hb dX1_countUnlike_14 rfl (lv_at hl 3 rfl) ?_
            refine lv_aload_n hx hb dX1_countUnlike_15 rfl (lv_at hl 0 rfl) ?_
            refine g_get (b) 1 (C := RX1) (T := TX1) (N := 4) (ci := 0) (ref := "CubeWorlds$World") hx hb hts (by decide +kernel) hown hK hP (by omega) hw.1 rfl (by decide) (by decide +kernel) rfl rfl dX1_countUnlike_16 ?_
            refine n_ge (tgt := 46) hx hb dX1_countUnlike_19 (by decide) (by omega) (by omega) (fun h_19 => ?_) (fun h_19 => ?_)
            · refine n_iinc 2 1 (lv' := [(2, .int (nI (x + 1))), (0, .ref (ad (b))), (1, .int (nI (acc2))), (3, .int (nI (y)))]) hx hb dX1_countUnlike_46 hl rfl (by decide) rfl (fun ls hl => ?_)
              refine n_goto 4 hx hb dX1_countUnlike_49 (by decide) ?_
              exact ih_4 (acc2) (x + 1) (by omega) (by omega) (by rw [ha2, sm_s, show y = 2 ^ nn by omega]) _ (lv_sub hl [1, 2, 0] rfl)
            · refine lv_aload_n hx hb dX1_countUnlike_22 rfl (lv_at hl 0 rfl) ?_
              refine lv_iload_n hx hb dX1_countUnlike_23 rfl (lv_at hl 2 rfl) ?_
              refine lv_iload_n hx hb dX1_countUnlike_24 rfl (lv_at hl 3 rfl) ?_
              refine g_callV (b) (C := RX1) (T := TX1) (N := 4) (ci := 0) (As := [.int (nI (x)), .int (nI (y))]) (rest := []) (c_X1_times l hI hbn hw (X := x) (Y := y) ht hnn (by omega) (by omega)) (cwV 2 hts gX1_countUnlike_X1_times rfl rfl rfl (by decide +kernel) ⟨Nat.le_of_ble_eq_true rfl, Nat.le_of_ble_eq_true rfl⟩) hx hb hml hown hts hK hP  (by omega) hw.1 rfl rfl hl.1 rfl (Nat.le_of_ble_eq_true rfl) (Nat.zero_le _) (Nat.zero_le _) dX1_countUnlike_25 ?_
              refine lv_aload_n hx hb dX1_countUnlike_28 rfl (lv_at hl 0 rfl) ?_
              refine lv_iload_n hx hb dX1_countUnlike_29 rfl (lv_at hl 3 rfl) ?_
              refine lv_iload_n hx hb dX1_countUnlike_30 rfl (lv_at hl 2 rfl) ?_
              refine g_callV (b) (C := RX1) (T := TX1) (N := 4) (ci := 0) (As := [.int (nI (y)), .int (nI (x))]) (rest := [.int (nI (tm nn c0 x y))]) (c_X1_times l hI hbn hw (X := y) (Y := x) ht hnn (by omega) (by omega)) (cwV 2 hts gX1_countUnlike_X1_times rfl rfl rfl (by decide +kernel) ⟨Nat.le_of_ble_eq_true rfl, Nat.le_of_ble_eq_true rfl⟩) hx hb hml hown hts hK hP  (by omega) hw.1 rfl rfl hl.1 rfl (Nat.le_of_ble_eq_true rfl) (Nat.zero_le _) (Nat.zero_le _) dX1_countUnlike_31 ?_
              have hm9 := tm_lt hcb x y
              have hm8 := tm_lt hcb y x
              refine n_ceq (tgt := 40) hx hb dX1_countUnlike_34 (by decide) (by omega) (by omega) (fun h_34 => ?_) (fun h_34 => ?_)
              · refine n_iinc 3 1 (lv' := [(3, .int (nI (y + 1))), (0, .ref (ad (b))), (1, .int (nI (acc2))), (2, .int (nI (x)))]) hx hb dX1_countUnlike_40 hl rfl (by decide) rfl (fun ls hl => ?_)
                refine n_goto 14 hx hb dX1_countUnlike_43 (by decide) ?_
                exact ih_14 (acc2) (y + 1) (by omega) (by omega) (by rw [ha2, cnt_n (by rw [bT h_34]; rfl)]) _ (lv_sub hl [1, 2, 3, 0] rfl)
              · refine n_iinc 1 1 (lv' := [(1, .int (nI (acc2 + 1))), (0, .ref (ad (b))), (2, .int (nI (x))), (3, .int (nI (y)))]) hx hb dX1_countUnlike_37 hl rfl (by decide) rfl (fun ls hl => ?_)
                refine n_iinc 3 1 (lv' := [(3, .int (nI (y + 1))), (1, .int (nI (acc2 + 1))), (0, .ref (ad (b))), (2, .int (nI (x)))]) hx hb dX1_countUnlike_40 hl rfl (by decide) rfl (fun ls hl => ?_)
                refine n_goto 14 hx hb dX1_countUnlike_43 (by decide) ?_
                exact ih_14 (acc2 + 1) (y + 1) (by omega) (by omega) (by rw [ha2, cnt_y (by rw [bF h_34]; rfl), Nat.add_assoc]) _ (lv_sub hl [2, 1, 3, 0] rfl)
        exact L_14 (2 ^ nn + 1) (acc) (0) (Nat.zero_le _) (by omega) (by rw [ha]; rfl) _ (lv_sub hl [1, 2, 3, 0] rfl)
  exact L_4 (2 ^ nn + 1) (0) (0) (Nat.zero_le _) (by omega) rfl _ (lv_sub hl [2, 1, 0] rfl)
set_option maxHeartbeats 4000000 in
set_option maxRecDepth 100000 in
theorem c_J6_bitCount_0f7a4 (l : Launch) {D : va_G} {tys : List (ClassId × FieldType)} {ad : Nat → Nat} {n : Nat} {E : Nat → va_E} {cI : ClassId} {t0 b nn : Nat} {c0 tt : Nat → Nat} (hI : tys[t0]? = some (cI, .int)) (hbn : b + 2 < n) (hw : isW cI ad E b nn c0 tt) {X : Nat} (hX : X < 65536) : Met l yJ6_bitCount_0f7a4 wsJ6_bitCount_0f7a4 ({ frames := 0, cells := 0, slots := 0, locals := 0 } : Room) (va_Pc [.int (nI (X))] (PB D tys n ad (E))) (k2_QcV (.int (nI (pcn X)))) 0 0 (fun _ => False) := by
  have b1 := bc1_le X
  have b2 := bc2_le X
  have b3 := bc3_le X
  have b4 := bc4_le X
  refine g_pure (cc := cJ6_bitCount_0f7a4) (maxL := 1) (ret := (some .int)) (by decide) rfl (Nat.le_of_ble_eq_true rfl) ?_
  intro p e s m args below meth c hx hb hrt hts hown hlocks hml hP hK ls hl
  show W p l e ({ frames := 0, cells := 0, slots := 0, locals := 0 } : Room) s m args below meth c s.heap [] 0 0 _ _
  have hl : lv_has ls 1 [(0, .int (nI (X)))] := hl
  refine lv_iload_n hx hb dJ6_bitCount_0f7a4_0 rfl (lv_at hl 0 rfl) ?_
  refine lv_iload_n hx hb dJ6_bitCount_0f7a4_1 rfl (lv_at hl 0 rfl) ?_
  refine n_iconst 1 hx hb dJ6_bitCount_0f7a4_2 ?_
  refine n_iushr hx hb dJ6_bitCount_0f7a4_3 (by omega) (by decide) ?_
  refine lv_ldcw (v := nI 1431655765) hx hb hown (hts _ (by decide +kernel)) dJ6_bitCount_0f7a4_4 ?_
  refine n_iand hx hb dJ6_bitCount_0f7a4_7 ?_
  refine n_isub hx hb dJ6_bitCount_0f7a4_8 (Nat.le_trans Nat.and_le_left (shr_le _ _)) ?_
  refine n_eq (show nI (X - ((X >>> 1) &&& 1431655765)) = nI (bc1 X) from rfl) ?_
  refine lv_istore_n (lv' := [(0, .int (nI (bc1 X)))]) hx hb dJ6_bitCount_0f7a4_9 rfl hl (by decide) rfl (fun ls hl => ?_)
  refine lv_iload_n hx hb dJ6_bitCount_0f7a4_10 rfl (lv_at hl 0 rfl) ?_
  refine lv_ldcw (v := nI 858993459) hx hb hown (hts _ (by decide +kernel)) dJ6_bitCount_0f7a4_11 ?_
  refine n_iand hx hb dJ6_bitCount_0f7a4_14 ?_
  refine lv_iload_n hx hb dJ6_bitCount_0f7a4_15 rfl (lv_at hl 0 rfl) ?_
  refine n_iconst 2 hx hb dJ6_bitCount_0f7a4_16 ?_
  refine n_iushr hx hb dJ6_bitCount_0f7a4_17 (by omega) (by decide) ?_
  refine lv_ldcw (v := nI 858993459) hx hb hown (hts _ (by decide +kernel)) dJ6_bitCount_0f7a4_18 ?_
  refine n_iand hx hb dJ6_bitCount_0f7a4_21 ?_
  refine n_iadd hx hb dJ6_bitCount_0f7a4_22 ?_
  refine n_eq (show nI (((bc1 X) &&& 858993459) + (((bc1 X) >>> 2) &&& 858993459)) = nI (bc2 X) from rfl) ?_
  refine lv_istore_n (lv' := [(0, .int (nI (bc2 X)))]) hx hb dJ6_bitCount_0f7a4_23 rfl hl (by decide) rfl (fun ls hl => ?_)
  refine lv_iload_n hx hb dJ6_bitCount_0f7a4_24 rfl (lv_at hl 0 rfl) ?_
  refine lv_iload_n hx hb dJ6_bitCount_0f7a4_25 rfl (lv_at hl 0 rfl) ?_
  refine n_iconst 4 hx hb dJ6_bitCount_0f7a4_26 ?_
  refine n_iushr hx hb dJ6_bitCount_0f7a4_27 (by omega) (by decide) ?_
  refine n_iadd hx hb dJ6_bitCount_0f7a4_28 ?_
  refine lv_ldcw (v := nI 252645135) hx hb hown (hts _ (by decide +kernel)) dJ6_bitCount_0f7a4_29 ?_
  refine n_iand hx hb dJ6_bitCount_0f7a4_32 ?_
  refine n_eq (show nI (((bc2 X) + ((bc2 X) >>> 4)) &&& 252645135) = nI (bc3 X) from rfl) ?_
  refine lv_istore_n (lv' := [(0, .int (nI (bc3 X)))]) hx hb dJ6_bitCount_0f7a4_33 rfl hl (by decide) rfl (fun ls hl => ?_)
  refine lv_iload_n hx hb dJ6_bitCount_0f7a4_34 rfl (lv_at hl 0 rfl) ?_
  refine lv_iload_n hx hb dJ6_bitCount_0f7a4_35 rfl (lv_at hl 0 rfl) ?_
  refine lv_bipush (v := nI 8) hx hb dJ6_bitCount_0f7a4_36 (by decide) ?_
  refine n_iushr hx hb dJ6_bitCount_0f7a4_38 (by omega) (by decide) ?_
  refine n_iadd hx hb dJ6_bitCount_0f7a4_39 ?_
  refine n_eq (show nI ((bc3 X) + ((bc3 X) >>> 8)) = nI (bc4 X) from rfl) ?_
  refine lv_istore_n (lv' := [(0, .int (nI (bc4 X)))]) hx hb dJ6_bitCount_0f7a4_40 rfl hl (by decide) rfl (fun ls hl => ?_)
  refine lv_iload_n hx hb dJ6_bitCount_0f7a4_41 rfl (lv_at hl 0 rfl) ?_
  refine lv_iload_n hx hb dJ6_bitCount_0f7a4_42 rfl (lv_at hl 0 rfl) ?_
  refine lv_bipush (v := nI 16) hx hb dJ6_bitCount_0f7a4_43 (by decide) ?_
  refine n_iushr hx hb dJ6_bitCount_0f7a4_45 (by omega) (by decide) ?_
  refine n_iadd hx hb dJ6_bitCount_0f7a4_46 ?_
  refine n_eq (show nI ((bc4 X) + ((bc4 X) >>> 16)) = nI (bc5 X) from rfl) ?_
  refine lv_istore_n (lv' := [(0, .int (nI (bc5 X)))]) hx hb dJ6_bitCount_0f7a4_47 rfl hl (by decide) rfl (fun ls hl => ?_)
  refine lv_iload_n hx hb dJ6_bitCount_0f7a4_48 rfl (lv_at hl 0 rfl) ?_
  refine lv_bipush (v := nI 63) hx hb dJ6_bitCount_0f7a4_49 (by decide) ?_
  refine n_iand hx hb dJ6_bitCount_0f7a4_51 ?_
  exact g_iret hx hb hrt hlocks dJ6_bitCount_0f7a4_52 (by rw [bc_ok X hX])
set_option maxHeartbeats 4000000 in
set_option maxRecDepth 100000 in
theorem c_X1_rankOf (l : Launch) {D : va_G} {tys : List (ClassId × FieldType)} {ad : Nat → Nat} {n : Nat} {E : Nat → va_E} {cI : ClassId} {t0 b nn : Nat} {c0 tt : Nat → Nat} (hI : tys[t0]? = some (cI, .int)) (hbn : b + 2 < n) (hw : isW cI ad E b nn c0 tt) {Y : Nat} (ht : tOK nn c0 tt) (hnn : nn ≤ 4) (h1n : 1 ≤ nn) (hcb : CB nn c0) (hY : Y < 2 ^ nn) : Met l yX1_rankOf wsX1_rankOf ({ frames := 2, cells := 0, slots := 0, locals := 43 } : Room) (va_Pc [.ref (ad (b)), .int (nI (Y))] (PB D tys n ad (E))) (k2_QcV (.int (nI (rnk nn c0 Y)))) 0 0 (fun _ => False) := by
  have p4 := pow4 hnn
  have p0 : 0 < 2 ^ nn := Nat.pow_pos (by decide)
  have hs := rk_seen hcb Y (2 ^ nn)
  have hp := p16 p4
  have hq := pcn_le hs p4
  refine g_pure (cc := cX1_rankOf) (maxL := 5) (ret := (some .int)) (by decide) rfl (Nat.le_of_ble_eq_true rfl) ?_
  intro p e s m args below meth c hx hb hrt hts hown hlocks hml hP hK ls hl
  show W p l e ({ frames := 2, cells := 0, slots := 0, locals := 43 } : Room) s m args below meth c s.heap [] 0 0 _ _
  have hl : lv_has ls 5 [(0, .ref (ad (b))), (1, .int (nI (Y)))] := hl
  refine n_iconst 0 hx hb dX1_rankOf_0 ?_
  refine lv_istore_n (lv' := [(2, .int (nI (0))), (0, .ref (ad (b))), (1, .int (nI (Y)))]) hx hb dX1_rankOf_1 rfl hl (by decide) rfl (fun ls hl => ?_)
  refine n_iconst 0 hx hb dX1_rankOf_2 ?_
  refine lv_istore_n (lv' := [(3, .int (nI (0))), (2, .int (nI (0))), (0, .ref (ad (b))), (1, .int (nI (Y)))]) hx hb dX1_rankOf_3 rfl hl (by decide) rfl (fun ls hl => ?_)
  have L_4 : ∀ (r : Nat) (acc : Nat) (x : Nat), (x ≤ 2 ^ nn) → (2 ^ nn < x + r) → (acc = os (fun x => 1 <<< tm nn c0 x Y) x) → ∀ (ls : Array Slot), lv_has ls 5 [(0, .ref (ad (b))), (1, .int (nI (Y))), (2, .int (nI (acc))), (3, .int (nI (x)))] → W p l e ({ frames := 2, cells := 0, slots := 0, locals := 43 } : Room) s m args below meth c s.heap [] 0 0 (MQ below (k2_QcV (.int (nI (rnk nn c0 Y)))) args s 0 0 (fun _ => False)) (F0 m 4 ls []) := by
    intro r
    induction r with
    | zero => intro acc x hx1 hr ha; intros; exact absurd hr (by omega)
    | succ r ih =>
      intro acc x hx1 hr ha ls hl
      have ih_4 := ih
      refine lv_iload_n hx hb dX1_rankOf_4 rfl (lv_at hl 3 rfl) ?_
      refine lv_aload_n hx hb dX1_rankOf_5 rfl (lv_at hl 0 rfl) ?_
      refine g_get (b) 1 (C := RX1) (T := TX1) (N := 4) (ci := 0) (ref := "CubeWorlds$World") hx hb hts (by decide +kernel) hown hK hP (by omega) hw.1 rfl (by decide) (by decide +kernel) rfl rfl dX1_rankOf_6 ?_
      refine n_ge (tgt := 29) hx hb dX1_rankOf_9 (by decide) (by omega) (by omega) (fun h_9 => ?_) (fun h_9 => ?_)
      · have e9 : x = 2 ^ nn := by omega
        rw [ha, e9] at hl
        refine lv_iload_n hx hb dX1_rankOf_29 rfl (lv_at hl 2 rfl) ?_
        refine g_callS (As := [.int (nI (os (fun x => 1 <<< tm nn c0 x Y) (2 ^ nn)))]) (rest := []) (c_J6_bitCount_0f7a4 l hI hbn hw (X := os (fun x => 1 <<< tm nn c0 x Y) (2 ^ nn)) (by omega)) (va_cwS 1 hts gX1_rankOf_J6_bitCount_0f7a4 rfl rfl rfl (by decide +kernel) ⟨Nat.le_of_ble_eq_true rfl, Nat.le_of_ble_eq_true rfl⟩) hx hb hml hown hts hK hP  rfl hl.1 rfl (Nat.le_of_ble_eq_true rfl) (Nat.zero_le _) (Nat.zero_le _) dX1_rankOf_30 ?_
        refine lv_istore_n (lv' := [(3, .int (nI (pcn (os (fun x => 1 <<< tm nn c0 x Y) (2 ^ nn))))), (0, .ref (ad (b))), (1, .int (nI (Y))), (2, .int (nI (os (fun x => 1 <<< tm nn c0 x Y) (2 ^ nn))))]) hx hb dX1_rankOf_33 rfl hl (by decide) rfl (fun ls hl => ?_)
        refine n_iconst 0 hx hb dX1_rankOf_34 ?_
        refine lv_istore (lv' := [(4, .int (nI (0))), (3, .int (nI (pcn (os (fun x => 1 <<< tm nn c0 x Y) (2 ^ nn))))), (0, .ref (ad (b))), (1, .int (nI (Y))), (2, .int (nI (os (fun x => 1 <<< tm nn c0 x Y) (2 ^ nn))))]) hx hb dX1_rankOf_35 hl (by decide) rfl (fun ls hl => ?_)
        have L_37 : ∀ (r : Nat) (q : Nat), (q ≤ nn) → (nn < q + r) → (∀ j, j < q → 2 ^ j < pcn (os (fun x => 1 <<< tm nn c0 x Y) (2 ^ nn))) → ∀ (ls : Array Slot), lv_has ls 5 [(0, .ref (ad (b))), (1, .int (nI (Y))), (3, .int (nI (pcn (os (fun x => 1 <<< tm nn c0 x Y) (2 ^ nn))))), (4, .int (nI (q)))] → W p l e ({ frames := 2, cells := 0, slots := 0, locals := 43 } : Room) s m args below meth c s.heap [] 0 0 (MQ below (k2_QcV (.int (nI (rnk nn c0 Y)))) args s 0 0 (fun _ => False)) (F0 m 37 ls []) := by
          intro r
          induction r with
          | zero => intro q hq1 hr2 hno; intros; exact absurd hr2 (by omega)
          | succ r ih =>
            intro q hq1 hr2 hno ls hl
            have ih_37 := ih
            refine lv_iload hx hb dX1_rankOf_37 (lv_at hl 3 rfl) ?_
            refine lv_aload_n hx hb dX1_rankOf_39 rfl (lv_at hl 0 rfl) ?_
            refine g_get (b) 0 (C := RX1) (T := TX1) (N := 4) (ci := 0) (ref := "CubeWorlds$World") hx hb hts (by decide +kernel) hown hK hP (by omega) hw.1 rfl (by decide) (by decide +kernel) rfl rfl dX1_rankOf_40 ?_
            refine n_ge (tgt := 60) hx hb dX1_rankOf_43 (by decide) (by omega) (by omega) (fun h_43 => ?_) (fun h_43 => ?_)
            · refine lv_iload hx hb dX1_rankOf_60 (lv_at hl 3 rfl) ?_
              exact g_iret hx hb hrt hlocks dX1_rankOf_62 (by rw [show rnk nn c0 Y = q from lgn_at (by rw [show q = nn by omega]; exact hq) hno (by omega)])
            · have hq2 := shl1_lt (k := q) (n := 5) (by omega)
              refine n_iconst 1 hx hb dX1_rankOf_46 ?_
              refine lv_iload hx hb dX1_rankOf_47 (lv_at hl 3 rfl) ?_
              refine n_ishl hx hb dX1_rankOf_49 (by omega) ?_
              refine lv_iload_n hx hb dX1_rankOf_50 rfl (lv_at hl 2 rfl) ?_
              refine n_ge (tgt := 60) hx hb dX1_rankOf_51 (by decide) (by omega) (by omega) (fun h_51 => ?_) (fun h_51 => ?_)
              · refine lv_iload hx hb dX1_rankOf_60 (lv_at hl 3 rfl) ?_
                exact g_iret hx hb hrt hlocks dX1_rankOf_62 (by rw [show rnk nn c0 Y = q from lgn_at ((shl1 q) ▸ h_51) hno (by omega)])
              · refine n_iinc 3 1 (lv' := [(4, .int (nI (q + 1))), (0, .ref (ad (b))), (1, .int (nI (Y))), (3, .int (nI (pcn (os (fun x => 1 <<< tm nn c0 x Y) (2 ^ nn)))))]) hx hb dX1_rankOf_54 hl rfl (by decide) rfl (fun ls hl => ?_)
                refine n_goto 37 hx hb dX1_rankOf_57 (by decide) ?_
                exact ih_37 (q + 1) (by omega) (by omega) (pw_s hno h_51) _ (lv_sub hl [1, 2, 3, 0] rfl)
        exact L_37 (nn + 1) (0) (Nat.zero_le _) (by omega) (fun j h => absurd h (by omega)) _ (lv_sub hl [2, 3, 1, 0] rfl)
      · refine lv_iload_n hx hb dX1_rankOf_12 rfl (lv_at hl 2 rfl) ?_
        refine n_iconst 1 hx hb dX1_rankOf_13 ?_
        refine lv_aload_n hx hb dX1_rankOf_14 rfl (lv_at hl 0 rfl) ?_
        refine lv_iload_n hx hb dX1_rankOf_15 rfl (lv_at hl 3 rfl) ?_
        refine lv_iload_n hx hb dX1_rankOf_16 rfl (lv_at hl 1 rfl) ?_
        refine g_callV (b) (C := RX1) (T := TX1) (N := 4) (ci := 0) (As := [.int (nI (x)), .int (nI (Y))]) (rest := [.int (nI (1)), .int (nI (acc))]) (c_X1_times l hI hbn hw (X := x) (Y := Y) ht hnn (by omega) (by omega)) (cwV 2 hts gX1_rankOf_X1_times rfl rfl rfl (by decide +kernel) ⟨Nat.le_of_ble_eq_true rfl, Nat.le_of_ble_eq_true rfl⟩) hx hb hml hown hts hK hP  (by omega) hw.1 rfl rfl hl.1 rfl (Nat.le_of_ble_eq_true rfl) (Nat.zero_le _) (Nat.zero_le _) dX1_rankOf_17 ?_
        have hm9 := tm_lt hcb x Y
        refine n_ishl hx hb dX1_rankOf_20 (by omega) ?_
        refine n_ior hx hb dX1_rankOf_21 ?_
        refine lv_istore_n (lv' := [(2, .int (nI (acc ||| (1 <<< (tm nn c0 x Y))))), (0, .ref (ad (b))), (1, .int (nI (Y))), (3, .int (nI (x)))]) hx hb dX1_rankOf_22 rfl hl (by decide) rfl (fun ls hl => ?_)
        refine n_iinc 3 1 (lv' := [(3, .int (nI (x + 1))), (2, .int (nI (acc ||| (1 <<< (tm nn c0 x Y))))), (0, .ref (ad (b))), (1, .int (nI (Y)))]) hx hb dX1_rankOf_23 hl rfl (by decide) rfl (fun ls hl => ?_)
        refine n_goto 4 hx hb dX1_rankOf_26 (by decide) ?_
        exact ih_4 (acc ||| (1 <<< (tm nn c0 x Y))) (x + 1) (by omega) (by omega) (by rw [ha]; rfl) _ (lv_sub hl [2, 3, 1, 0] rfl)
  exact L_4 (2 ^ nn + 1) (0) (0) (Nat.zero_le _) (by omega) rfl _ (lv_sub hl [2, 3, 1, 0] rfl)
end
section
/-! planes: points and lines are numbers 0 .. N N + N -/
def plT (n : Nat) : Nat := 2 ^ n * 2 ^ n + 2 ^ n
def lsB (n : Nat) (c : Nat → Nat) (P Q : Nat) : Bool :=
  if Q = 2 ^ n * 2 ^ n + 2 ^ n then decide (2 ^ n * 2 ^ n ≤ P)
  else if 2 ^ n * 2 ^ n ≤ Q then (decide (P = 2 ^ n * 2 ^ n + 2 ^ n) || decide (P >>> n = Q - 2 ^ n * 2 ^ n))
  else if 2 ^ n * 2 ^ n ≤ P then decide (P = 2 ^ n * 2 ^ n + (Q >>> n))
  else decide (tm n c (Q >>> n) (P >>> n) ^^^ (Q &&& (2 ^ n - 1)) = P &&& (2 ^ n - 1))
/-- the line through a lesser and a greater point: its steepness when both are inside and apart -/
def ltM (n : Nat) (c : Nat → Nat) (L : Bool) (a b : Nat) : Option Nat :=
  if 2 ^ n * 2 ^ n ≤ b then some (b - 2 ^ n * 2 ^ n) else slv n c ((a >>> n) ^^^ (b >>> n)) ((a &&& (2 ^ n - 1)) ^^^ (b &&& (2 ^ n - 1))) L
def ltS (n : Nat) (c : Nat → Nat) (a b : Nat) : Option Nat :=
  if 2 ^ n * 2 ^ n ≤ a then some (2 ^ n * 2 ^ n + 2 ^ n)
  else if b = 2 ^ n * 2 ^ n + 2 ^ n ∨ b >>> n = a >>> n then some (2 ^ n * 2 ^ n + (a >>> n))
  else (ltM n c false a b).map fun m => (m <<< n) ||| (tm n c m (a >>> n) ^^^ (a &&& (2 ^ n - 1)))
def mtS (n : Nat) (c : Nat → Nat) (a b : Nat) : Option Nat :=
  if 2 ^ n * 2 ^ n ≤ a then some (2 ^ n * 2 ^ n + 2 ^ n)
  else if b = 2 ^ n * 2 ^ n + 2 ^ n ∨ b >>> n = a >>> n then some (2 ^ n * 2 ^ n + (a >>> n))
  else (ltM n c true a b).map fun x => (x <<< n) ||| (tm n c (a >>> n) x ^^^ (a &&& (2 ^ n - 1)))
def cbF (n : Nat) (c : Nat → Nat) (d : Nat) : Bool := decide (1 ≤ d) && (lpr n c d).isSome
def cbS (n : Nat) (c : Nat → Nat) : Nat := cnt (cbF n c) (2 ^ n) * (2 ^ n >>> 1) * (2 ^ n * 2 ^ n)
theorem hp_lt {n P : Nat} (h : P < 2 ^ n * 2 ^ n) : P >>> n < 2 ^ n := by
  rw [Nat.shiftRight_eq_div_pow]
  exact Nat.div_lt_of_lt_mul h
theorem lw_lt (n P : Nat) : P &&& (2 ^ n - 1) < 2 ^ n := by
  have h0 : 0 < 2 ^ n := Nat.pow_pos (by decide)
  have := @Nat.and_le_right P (2 ^ n - 1)
  omega
theorem sq4 {n : Nat} (h : 2 ^ n ≤ 16) : 2 ^ n * 2 ^ n ≤ 256 := Nat.mul_le_mul h h
theorem rB_l {L : Nat} {x : Int32} (hL : L < 2 ^ 31) : rB 0 L x = decide (¬ x < 0 ∧ ¬ nI L < x) := by
  refine decide_eq_decide.mpr ?_
  rw [i_le, i_le, i_lt, i_lt, nI_toInt' (by omega), nI_toInt' hL, i0]
  constructor
  · rintro ⟨h1, h2⟩; constructor <;> omega
  · rintro ⟨h1, h2⟩; constructor <;> omega
theorem uq_some {p : Nat → Bool} {n k : Nat} (h : uq p n = some k) : k < n ∧ p k = true := by
  unfold uq at h
  split at h
  · have := fl_some h
    exact ⟨by omega, this.2.2.1⟩
  · cases h
theorem slv_lt {n : Nat} {c : Nat → Nat} {x z k : Nat} {L : Bool} (h : slv n c x z L = some k) : k < 2 ^ n := (uq_some h).1

set_option maxHeartbeats 4000000 in
set_option maxRecDepth 100000 in
theorem c_X0_insideOf (l : Launch) {D : va_G} {tys : List (ClassId × FieldType)} {ad : Nat → Nat} {n : Nat} {E : Nat → va_E} {cI : ClassId} {t0 b nn : Nat} {c0 tt : Nat → Nat} (hI : tys[t0]? = some (cI, .int)) (hbn : b + 2 < n) (hw : isW cI ad E b nn c0 tt) : Met l yX0_insideOf wsX0_insideOf ({ frames := 1, cells := 0, slots := 0, locals := 20 } : Room) (va_Pc [.ref (ad (b))] (PB D tys n ad (E))) (k2_QcV (.int (nI (2 ^ nn * 2 ^ nn)))) 0 0 (fun _ => False) := by
  refine g_pure (cc := cX0_insideOf) (maxL := 1) (ret := (some .int)) (by decide) rfl (Nat.le_of_ble_eq_true rfl) ?_
  intro p e s m args below meth c hx hb hrt hts hown hlocks hml hP hK ls hl
  show W p l e ({ frames := 1, cells := 0, slots := 0, locals := 20 } : Room) s m args below meth c s.heap [] 0 0 _ _
  have hl : lv_has ls 1 [(0, .ref (ad (b)))] := hl
  refine lv_aload_n hx hb dX0_insideOf_0 rfl (lv_at hl 0 rfl) ?_
  refine g_callV (b) (C := RX1) (T := TX1) (N := 4) (ci := 0) (As := []) (rest := []) (c_X1_size l hI hbn hw) (cwV 0 hts gX0_insideOf_X1_size rfl rfl rfl (by decide +kernel) ⟨Nat.le_of_ble_eq_true rfl, Nat.le_of_ble_eq_true rfl⟩) hx hb hml hown hts hK hP  (by omega) hw.1 rfl rfl hl.1 rfl (Nat.le_of_ble_eq_true rfl) (Nat.zero_le _) (Nat.zero_le _) dX0_insideOf_1 ?_
  refine lv_aload_n hx hb dX0_insideOf_4 rfl (lv_at hl 0 rfl) ?_
  refine g_callV (b) (C := RX1) (T := TX1) (N := 4) (ci := 0) (As := []) (rest := [.int (nI (2 ^ nn))]) (c_X1_size l hI hbn hw) (cwV 0 hts gX0_insideOf_X1_size rfl rfl rfl (by decide +kernel) ⟨Nat.le_of_ble_eq_true rfl, Nat.le_of_ble_eq_true rfl⟩) hx hb hml hown hts hK hP  (by omega) hw.1 rfl rfl hl.1 rfl (Nat.le_of_ble_eq_true rfl) (Nat.zero_le _) (Nat.zero_le _) dX0_insideOf_5 ?_
  refine n_imul hx hb dX0_insideOf_8 ?_
  exact g_iret hx hb hrt hlocks dX0_insideOf_9 rfl
set_option maxHeartbeats 4000000 in
set_option maxRecDepth 100000 in
theorem c_X0_lastOf (l : Launch) {D : va_G} {tys : List (ClassId × FieldType)} {ad : Nat → Nat} {n : Nat} {E : Nat → va_E} {cI : ClassId} {t0 b nn : Nat} {c0 tt : Nat → Nat} (hI : tys[t0]? = some (cI, .int)) (hbn : b + 2 < n) (hw : isW cI ad E b nn c0 tt) : Met l yX0_lastOf wsX0_lastOf ({ frames := 2, cells := 0, slots := 0, locals := 40 } : Room) (va_Pc [.ref (ad (b))] (PB D tys n ad (E))) (k2_QcV (.int (nI (2 ^ nn * 2 ^ nn + 2 ^ nn)))) 0 0 (fun _ => False) := by
  refine g_pure (cc := cX0_lastOf) (maxL := 1) (ret := (some .int)) (by decide) rfl (Nat.le_of_ble_eq_true rfl) ?_
  intro p e s m args below meth c hx hb hrt hts hown hlocks hml hP hK ls hl
  show W p l e ({ frames := 2, cells := 0, slots := 0, locals := 40 } : Room) s m args below meth c s.heap [] 0 0 _ _
  have hl : lv_has ls 1 [(0, .ref (ad (b)))] := hl
  refine lv_aload_n hx hb dX0_lastOf_0 rfl (lv_at hl 0 rfl) ?_
  refine g_callS (As := [.ref (ad (b))]) (rest := []) (c_X0_insideOf l hI hbn hw) (va_cwS 1 hts gX0_lastOf_X0_insideOf rfl rfl rfl (by decide +kernel) ⟨Nat.le_of_ble_eq_true rfl, Nat.le_of_ble_eq_true rfl⟩) hx hb hml hown hts hK hP  rfl hl.1 rfl (Nat.le_of_ble_eq_true rfl) (Nat.zero_le _) (Nat.zero_le _) dX0_lastOf_1 ?_
  refine lv_aload_n hx hb dX0_lastOf_4 rfl (lv_at hl 0 rfl) ?_
  refine g_callV (b) (C := RX1) (T := TX1) (N := 4) (ci := 0) (As := []) (rest := [.int (nI (2 ^ nn * 2 ^ nn))]) (c_X1_size l hI hbn hw) (cwV 0 hts gX0_lastOf_X1_size rfl rfl rfl (by decide +kernel) ⟨Nat.le_of_ble_eq_true rfl, Nat.le_of_ble_eq_true rfl⟩) hx hb hml hown hts hK hP  (by omega) hw.1 rfl rfl hl.1 rfl (Nat.le_of_ble_eq_true rfl) (Nat.zero_le _) (Nat.zero_le _) dX0_lastOf_5 ?_
  refine n_iadd hx hb dX0_lastOf_8 ?_
  exact g_iret hx hb hrt hlocks dX0_lastOf_9 rfl
set_option maxHeartbeats 4000000 in
set_option maxRecDepth 100000 in
theorem c_X0_has (l : Launch) {D : va_G} {tys : List (ClassId × FieldType)} {ad : Nat → Nat} {n : Nat} {E : Nat → va_E} {cI : ClassId} {t0 b nn : Nat} {c0 tt : Nat → Nat} (hI : tys[t0]? = some (cI, .int)) (hbn : b + 2 < n) (hw : isW cI ad E b nn c0 tt) {x : Int32} (hnn : nn ≤ 4) : Met l yX0_has wsX0_has ({ frames := 3, cells := 0, slots := 0, locals := 60 } : Room) (va_Pc [.ref (ad (b)), .int (x)] (PB D tys n ad (E))) (k2_QcV (.int (bI (rB 0 (2 ^ nn * 2 ^ nn + 2 ^ nn) x)))) 0 0 (fun _ => False) := by
  have p4 := pow4 hnn
  have p0 : 0 < 2 ^ nn := Nat.pow_pos (by decide)
  have p16 := sq4 p4
  refine g_pure (cc := cX0_has) (maxL := 2) (ret := (some .boolean)) (by decide) rfl (Nat.le_of_ble_eq_true rfl) ?_
  intro p e s m args below meth c hx hb hrt hts hown hlocks hml hP hK ls hl
  show W p l e ({ frames := 3, cells := 0, slots := 0, locals := 60 } : Room) s m args below meth c s.heap [] 0 0 _ _
  have hl : lv_has ls 2 [(0, .ref (ad (b))), (1, .int (x))] := hl
  refine lv_iload_n hx hb dX0_has_0 rfl (lv_at hl 1 rfl) ?_
  refine lv_if_lt (tgt := 16) hx hb dX0_has_1 (by decide) (fun h_1 => ?_) (fun h_1 => ?_)
  · refine n_iconst 0 hx hb dX0_has_16 ?_
    exact g_zret (false) hx hb hrt hlocks dX0_has_17 rfl (by rw [rB_l (by omega)]; exact congrArg (fun b => Value.int (bI b)) (decide_eq_false (fun z => z.1 h_1)))
  · refine lv_iload_n hx hb dX0_has_4 rfl (lv_at hl 1 rfl) ?_
    refine lv_aload_n hx hb dX0_has_5 rfl (lv_at hl 0 rfl) ?_
    refine g_callS (As := [.ref (ad (b))]) (rest := [.int (x)]) (c_X0_lastOf l hI hbn hw) (va_cwS 1 hts gX0_has_X0_lastOf rfl rfl rfl (by decide +kernel) ⟨Nat.le_of_ble_eq_true rfl, Nat.le_of_ble_eq_true rfl⟩) hx hb hml hown hts hK hP  rfl hl.1 rfl (Nat.le_of_ble_eq_true rfl) (Nat.zero_le _) (Nat.zero_le _) dX0_has_6 ?_
    refine lv_icmp_gt (tgt := 16) hx hb dX0_has_9 (by decide) (fun h_9 => ?_) (fun h_9 => ?_)
    · refine n_iconst 0 hx hb dX0_has_16 ?_
      exact g_zret (false) hx hb hrt hlocks dX0_has_17 rfl (by rw [rB_l (by omega)]; exact congrArg (fun b => Value.int (bI b)) (decide_eq_false (fun z => z.2 h_9)))
    · refine n_iconst 1 hx hb dX0_has_12 ?_
      refine n_goto 17 hx hb dX0_has_13 (by decide) ?_
      exact g_zret (true) hx hb hrt hlocks dX0_has_17 rfl (by rw [rB_l (by omega)]; exact congrArg (fun b => Value.int (bI b)) (decide_eq_true ⟨h_1, h_9⟩))
set_option maxHeartbeats 4000000 in
set_option maxRecDepth 100000 in
theorem c_X0_highPart (l : Launch) {D : va_G} {tys : List (ClassId × FieldType)} {ad : Nat → Nat} {n : Nat} {E : Nat → va_E} {cI : ClassId} {t0 b nn : Nat} {c0 tt : Nat → Nat} (hI : tys[t0]? = some (cI, .int)) (hbn : b + 2 < n) (hw : isW cI ad E b nn c0 tt) {P : Nat} (hnn : nn ≤ 4) (hP0 : P < 2 ^ 31) : Met l yX0_highPart wsX0_highPart ({ frames := 1, cells := 0, slots := 0, locals := 20 } : Room) (va_Pc [.ref (ad (b)), .int (nI (P))] (PB D tys n ad (E))) (k2_QcV (.int (nI (P >>> nn)))) 0 0 (fun _ => False) := by
  refine g_pure (cc := cX0_highPart) (maxL := 2) (ret := (some .int)) (by decide) rfl (Nat.le_of_ble_eq_true rfl) ?_
  intro p e s m args below meth c hx hb hrt hts hown hlocks hml hP hK ls hl
  show W p l e ({ frames := 1, cells := 0, slots := 0, locals := 20 } : Room) s m args below meth c s.heap [] 0 0 _ _
  have hl : lv_has ls 2 [(0, .ref (ad (b))), (1, .int (nI (P)))] := hl
  refine lv_iload_n hx hb dX0_highPart_0 rfl (lv_at hl 1 rfl) ?_
  refine lv_aload_n hx hb dX0_highPart_1 rfl (lv_at hl 0 rfl) ?_
  refine g_callV (b) (C := RX1) (T := TX1) (N := 4) (ci := 0) (As := []) (rest := [.int (nI (P))]) (c_X1_bits l hI hbn hw) (cwV 0 hts gX0_highPart_X1_bits rfl rfl rfl (by decide +kernel) ⟨Nat.le_of_ble_eq_true rfl, Nat.le_of_ble_eq_true rfl⟩) hx hb hml hown hts hK hP  (by omega) hw.1 rfl rfl hl.1 rfl (Nat.le_of_ble_eq_true rfl) (Nat.zero_le _) (Nat.zero_le _) dX0_highPart_2 ?_
  refine n_ishr hx hb dX0_highPart_5 hP0 (by omega) ?_
  exact g_iret hx hb hrt hlocks dX0_highPart_6 rfl
set_option maxHeartbeats 4000000 in
set_option maxRecDepth 100000 in
theorem c_X0_lowPart (l : Launch) {D : va_G} {tys : List (ClassId × FieldType)} {ad : Nat → Nat} {n : Nat} {E : Nat → va_E} {cI : ClassId} {t0 b nn : Nat} {c0 tt : Nat → Nat} (hI : tys[t0]? = some (cI, .int)) (hbn : b + 2 < n) (hw : isW cI ad E b nn c0 tt) {P : Nat} : Met l yX0_lowPart wsX0_lowPart ({ frames := 1, cells := 0, slots := 0, locals := 20 } : Room) (va_Pc [.ref (ad (b)), .int (nI (P))] (PB D tys n ad (E))) (k2_QcV (.int (nI (P &&& (2 ^ nn - 1))))) 0 0 (fun _ => False) := by
  have p0 : 0 < 2 ^ nn := Nat.pow_pos (by decide)
  refine g_pure (cc := cX0_lowPart) (maxL := 2) (ret := (some .int)) (by decide) rfl (Nat.le_of_ble_eq_true rfl) ?_
  intro p e s m args below meth c hx hb hrt hts hown hlocks hml hP hK ls hl
  show W p l e ({ frames := 1, cells := 0, slots := 0, locals := 20 } : Room) s m args below meth c s.heap [] 0 0 _ _
  have hl : lv_has ls 2 [(0, .ref (ad (b))), (1, .int (nI (P)))] := hl
  refine lv_iload_n hx hb dX0_lowPart_0 rfl (lv_at hl 1 rfl) ?_
  refine lv_aload_n hx hb dX0_lowPart_1 rfl (lv_at hl 0 rfl) ?_
  refine g_callV (b) (C := RX1) (T := TX1) (N := 4) (ci := 0) (As := []) (rest := [.int (nI (P))]) (c_X1_size l hI hbn hw) (cwV 0 hts gX0_lowPart_X1_size rfl rfl rfl (by decide +kernel) ⟨Nat.le_of_ble_eq_true rfl, Nat.le_of_ble_eq_true rfl⟩) hx hb hml hown hts hK hP  (by omega) hw.1 rfl rfl hl.1 rfl (Nat.le_of_ble_eq_true rfl) (Nat.zero_le _) (Nat.zero_le _) dX0_lowPart_2 ?_
  refine n_iconst 1 hx hb dX0_lowPart_5 ?_
  refine n_isub hx hb dX0_lowPart_6 (by omega) ?_
  refine n_iand hx hb dX0_lowPart_7 ?_
  exact g_iret hx hb hrt hlocks dX0_lowPart_8 rfl
set_option maxHeartbeats 4000000 in
set_option maxRecDepth 100000 in
theorem c_X0_lies (l : Launch) {D : va_G} {tys : List (ClassId × FieldType)} {ad : Nat → Nat} {n : Nat} {E : Nat → va_E} {cI : ClassId} {t0 b nn : Nat} {c0 tt : Nat → Nat} (hI : tys[t0]? = some (cI, .int)) (hbn : b + 2 < n) (hw : isW cI ad E b nn c0 tt) {A0 B0 : Nat} (ht : tOK nn c0 tt) (hnn : nn ≤ 4) (hcb : CB nn c0) (hA0 : A0 ≤ 2 ^ nn * 2 ^ nn + 2 ^ nn) (hB0 : B0 ≤ 2 ^ nn * 2 ^ nn + 2 ^ nn) : Met l yX0_lies wsX0_lies ({ frames := 3, cells := 0, slots := 0, locals := 60 } : Room) (va_Pc [.ref (ad (b)), .int (nI (A0)), .int (nI (B0))] (PB D tys n ad (E))) (k2_QcV (.int (bI (lsB nn c0 A0 B0)))) 0 0 (fun _ => False) := by
  have p4 := pow4 hnn
  have p0 : 0 < 2 ^ nn := Nat.pow_pos (by decide)
  have p16 := sq4 p4
  have r1 := shr_le A0 nn
  have r2 := shr_le B0 nn
  have w1 := lw_lt nn A0
  have w2 := lw_lt nn B0
  have w3 := tm_lt hcb (B0 >>> nn) (A0 >>> nn)
  have w4 := Nat.xor_lt_two_pow w3 w2
  refine g_pure (cc := cX0_lies) (maxL := 6) (ret := (some .boolean)) (by decide) rfl (Nat.le_of_ble_eq_true rfl) ?_
  intro p e s m args below meth c hx hb hrt hts hown hlocks hml hP hK ls hl
  show W p l e ({ frames := 3, cells := 0, slots := 0, locals := 60 } : Room) s m args below meth c s.heap [] 0 0 _ _
  have hl : lv_has ls 6 [(0, .ref (ad (b))), (1, .int (nI (A0))), (2, .int (nI (B0)))] := hl
  refine lv_aload_n hx hb dX0_lies_0 rfl (lv_at hl 0 rfl) ?_
  refine g_callS (As := [.ref (ad (b))]) (rest := []) (c_X0_insideOf l hI hbn hw) (va_cwS 1 hts gX0_lies_X0_insideOf rfl rfl rfl (by decide +kernel) ⟨Nat.le_of_ble_eq_true rfl, Nat.le_of_ble_eq_true rfl⟩) hx hb hml hown hts hK hP  rfl hl.1 rfl (Nat.le_of_ble_eq_true rfl) (Nat.zero_le _) (Nat.zero_le _) dX0_lies_1 ?_
  refine lv_istore_n (lv' := [(3, .int (nI (2 ^ nn * 2 ^ nn))), (0, .ref (ad (b))), (1, .int (nI (A0))), (2, .int (nI (B0)))]) hx hb dX0_lies_4 rfl hl (by decide) rfl (fun ls hl => ?_)
  refine lv_aload_n hx hb dX0_lies_5 rfl (lv_at hl 1 rfl) ?_
  refine g_callS (As := [.ref (ad (b))]) (rest := []) (c_X0_lastOf l hI hbn hw) (va_cwS 1 hts gX0_lies_X0_lastOf rfl rfl rfl (by decide +kernel) ⟨Nat.le_of_ble_eq_true rfl, Nat.le_of_ble_eq_true rfl⟩) hx hb hml hown hts hK hP  rfl hl.1 rfl (Nat.le_of_ble_eq_true rfl) (Nat.zero_le _) (Nat.zero_le _) dX0_lies_6 ?_
  refine lv_istore (lv' := [(4, .int (nI (2 ^ nn * 2 ^ nn + 2 ^ nn))), (3, .int (nI (2 ^ nn * 2 ^ nn))), (0, .ref (ad (b))), (1, .int (nI (A0))), (2, .int (nI (B0)))]) hx hb dX0_lies_9 hl (by decide) rfl (fun ls hl => ?_)
  refine lv_iload_n hx hb dX0_lies_11 rfl (lv_at hl 4 rfl) ?_
  refine lv_iload hx hb dX0_lies_12 (lv_at hl 0 rfl) ?_
  refine n_cne (tgt := 28) hx hb dX0_lies_14 (by decide) (by omega) (by omega) (fun h_14 => ?_) (fun h_14 => ?_)
  · refine lv_iload_n hx hb dX0_lies_28 rfl (lv_at hl 4 rfl) ?_
    refine lv_iload_n hx hb dX0_lies_29 rfl (lv_at hl 1 rfl) ?_
    refine n_lt (tgt := 56) hx hb dX0_lies_30 (by decide) (by omega) (by omega) (fun h_30 => ?_) (fun h_30 => ?_)
    · refine lv_aload_n hx hb dX0_lies_56 rfl (lv_at hl 2 rfl) ?_
      refine lv_iload_n hx hb dX0_lies_57 rfl (lv_at hl 4 rfl) ?_
      refine g_callS (As := [.ref (ad (b)), .int (nI (B0))]) (rest := []) (c_X0_highPart l hI hbn hw (P := B0) hnn (by omega)) (va_cwS 2 hts gX0_lies_X0_highPart rfl rfl rfl (by decide +kernel) ⟨Nat.le_of_ble_eq_true rfl, Nat.le_of_ble_eq_true rfl⟩) hx hb hml hown hts hK hP  rfl hl.1 rfl (Nat.le_of_ble_eq_true rfl) (Nat.zero_le _) (Nat.zero_le _) dX0_lies_58 ?_
      refine lv_istore (lv' := [(5, .int (nI (B0 >>> nn))), (4, .int (nI (2 ^ nn * 2 ^ nn + 2 ^ nn))), (3, .int (nI (2 ^ nn * 2 ^ nn))), (0, .ref (ad (b))), (1, .int (nI (A0))), (2, .int (nI (B0)))]) hx hb dX0_lies_61 hl (by decide) rfl (fun ls hl => ?_)
      refine lv_iload_n hx hb dX0_lies_63 rfl (lv_at hl 4 rfl) ?_
      refine lv_iload_n hx hb dX0_lies_64 rfl (lv_at hl 2 rfl) ?_
      refine n_lt (tgt := 82) hx hb dX0_lies_65 (by decide) (by omega) (by omega) (fun h_65 => ?_) (fun h_65 => ?_)
      · refine lv_aload_n hx hb dX0_lies_82 rfl (lv_at hl 3 rfl) ?_
        refine lv_iload hx hb dX0_lies_83 (lv_at hl 0 rfl) ?_
        have v1 := hp_lt h_30
        have v2 := hp_lt h_65
        refine lv_aload_n hx hb dX0_lies_85 rfl (lv_at hl 3 rfl) ?_
        refine lv_iload_n hx hb dX0_lies_86 rfl (lv_at hl 4 rfl) ?_
        refine g_callS (As := [.ref (ad (b)), .int (nI (A0))]) (rest := [.int (nI (B0 >>> nn)), .ref (ad (b))]) (c_X0_highPart l hI hbn hw (P := A0) hnn (by omega)) (va_cwS 2 hts gX0_lies_X0_highPart rfl rfl rfl (by decide +kernel) ⟨Nat.le_of_ble_eq_true rfl, Nat.le_of_ble_eq_true rfl⟩) hx hb hml hown hts hK hP  rfl hl.1 rfl (Nat.le_of_ble_eq_true rfl) (Nat.zero_le _) (Nat.zero_le _) dX0_lies_87 ?_
        refine g_callV (b) (C := RX1) (T := TX1) (N := 4) (ci := 0) (As := [.int (nI (B0 >>> nn)), .int (nI (A0 >>> nn))]) (rest := []) (c_X1_times l hI hbn hw (X := B0 >>> nn) (Y := A0 >>> nn) ht hnn (by omega) (by omega)) (cwV 2 hts gX0_lies_X1_times rfl rfl rfl (by decide +kernel) ⟨Nat.le_of_ble_eq_true rfl, Nat.le_of_ble_eq_true rfl⟩) hx hb hml hown hts hK hP  (by omega) hw.1 rfl rfl hl.1 rfl (Nat.le_of_ble_eq_true rfl) (Nat.zero_le _) (Nat.zero_le _) dX0_lies_90 ?_
        refine lv_aload_n hx hb dX0_lies_93 rfl (lv_at hl 3 rfl) ?_
        refine lv_iload_n hx hb dX0_lies_94 rfl (lv_at hl 5 rfl) ?_
        refine g_callS (As := [.ref (ad (b)), .int (nI (B0))]) (rest := [.int (nI (tm nn c0 (B0 >>> nn) (A0 >>> nn)))]) (c_X0_lowPart l hI hbn hw (P := B0)) (va_cwS 2 hts gX0_lies_X0_lowPart rfl rfl rfl (by decide +kernel) ⟨Nat.le_of_ble_eq_true rfl, Nat.le_of_ble_eq_true rfl⟩) hx hb hml hown hts hK hP  rfl hl.1 rfl (Nat.le_of_ble_eq_true rfl) (Nat.zero_le _) (Nat.zero_le _) dX0_lies_95 ?_
        refine n_ixor hx hb dX0_lies_98 ?_
        refine lv_aload_n hx hb dX0_lies_99 rfl (lv_at hl 3 rfl) ?_
        refine lv_iload_n hx hb dX0_lies_100 rfl (lv_at hl 4 rfl) ?_
        refine g_callS (As := [.ref (ad (b)), .int (nI (A0))]) (rest := [.int (nI ((tm nn c0 (B0 >>> nn) (A0 >>> nn)) ^^^ (B0 &&& (2 ^ nn - 1))))]) (c_X0_lowPart l hI hbn hw (P := A0)) (va_cwS 2 hts gX0_lies_X0_lowPart rfl rfl rfl (by decide +kernel) ⟨Nat.le_of_ble_eq_true rfl, Nat.le_of_ble_eq_true rfl⟩) hx hb hml hown hts hK hP  rfl hl.1 rfl (Nat.le_of_ble_eq_true rfl) (Nat.zero_le _) (Nat.zero_le _) dX0_lies_101 ?_
        refine n_cne (tgt := 111) hx hb dX0_lies_104 (by decide) (by omega) (by omega) (fun h_104 => ?_) (fun h_104 => ?_)
        · refine n_iconst 0 hx hb dX0_lies_111 ?_
          exact g_zret (false) hx hb hrt hlocks dX0_lies_112 rfl (by rw [show lsB nn c0 A0 B0 = false from by unfold lsB; rw [if_neg h_14, if_neg (Nat.not_le.mpr h_30), if_neg (Nat.not_le.mpr h_65), decide_eq_false h_104]])
        · refine n_iconst 1 hx hb dX0_lies_107 ?_
          refine n_goto 112 hx hb dX0_lies_108 (by decide) ?_
          exact g_zret (true) hx hb hrt hlocks dX0_lies_112 rfl (by rw [show lsB nn c0 A0 B0 = true from by unfold lsB; rw [if_neg h_14, if_neg (Nat.not_le.mpr h_30), if_neg (Nat.not_le.mpr h_65), decide_eq_true h_104]])
      · refine lv_iload_n hx hb dX0_lies_68 rfl (lv_at hl 4 rfl) ?_
        refine lv_iload_n hx hb dX0_lies_69 rfl (lv_at hl 2 rfl) ?_
        refine lv_iload hx hb dX0_lies_70 (lv_at hl 0 rfl) ?_
        refine n_iadd hx hb dX0_lies_72 ?_
        refine n_cne (tgt := 80) hx hb dX0_lies_73 (by decide) (by omega) (by omega) (fun h_73 => ?_) (fun h_73 => ?_)
        · refine n_iconst 0 hx hb dX0_lies_80 ?_
          exact g_zret (false) hx hb hrt hlocks dX0_lies_81 rfl (by rw [show lsB nn c0 A0 B0 = false from by unfold lsB; rw [if_neg h_14, if_neg (Nat.not_le.mpr h_30), if_pos h_65, decide_eq_false h_73]])
        · refine n_iconst 1 hx hb dX0_lies_76 ?_
          refine n_goto 81 hx hb dX0_lies_77 (by decide) ?_
          exact g_zret (true) hx hb hrt hlocks dX0_lies_81 rfl (by rw [show lsB nn c0 A0 B0 = true from by unfold lsB; rw [if_neg h_14, if_neg (Nat.not_le.mpr h_30), if_pos h_65, decide_eq_true h_73]])
    · refine lv_iload_n hx hb dX0_lies_33 rfl (lv_at hl 3 rfl) ?_
      refine lv_iload hx hb dX0_lies_34 (lv_at hl 0 rfl) ?_
      refine n_ceq (tgt := 50) hx hb dX0_lies_36 (by decide) (by omega) (by omega) (fun h_36 => ?_) (fun h_36 => ?_)
      · refine n_iconst 1 hx hb dX0_lies_50 ?_
        refine n_goto 55 hx hb dX0_lies_51 (by decide) ?_
        exact g_zret (true) hx hb hrt hlocks dX0_lies_55 rfl (by rw [show lsB nn c0 A0 B0 = true from by unfold lsB; rw [if_neg h_14, if_pos h_30, decide_eq_true h_36, Bool.true_or]])
      · refine lv_aload_n hx hb dX0_lies_39 rfl (lv_at hl 2 rfl) ?_
        refine lv_iload_n hx hb dX0_lies_40 rfl (lv_at hl 3 rfl) ?_
        refine g_callS (As := [.ref (ad (b)), .int (nI (A0))]) (rest := []) (c_X0_highPart l hI hbn hw (P := A0) hnn (by omega)) (va_cwS 2 hts gX0_lies_X0_highPart rfl rfl rfl (by decide +kernel) ⟨Nat.le_of_ble_eq_true rfl, Nat.le_of_ble_eq_true rfl⟩) hx hb hml hown hts hK hP  rfl hl.1 rfl (Nat.le_of_ble_eq_true rfl) (Nat.zero_le _) (Nat.zero_le _) dX0_lies_41 ?_
        refine lv_iload_n hx hb dX0_lies_44 rfl (lv_at hl 4 rfl) ?_
        refine lv_iload_n hx hb dX0_lies_45 rfl (lv_at hl 1 rfl) ?_
        refine n_isub hx hb dX0_lies_46 (by omega) ?_
        refine n_cne (tgt := 54) hx hb dX0_lies_47 (by decide) (by omega) (by omega) (fun h_47 => ?_) (fun h_47 => ?_)
        · refine n_iconst 0 hx hb dX0_lies_54 ?_
          exact g_zret (false) hx hb hrt hlocks dX0_lies_55 rfl (by rw [show lsB nn c0 A0 B0 = false from by unfold lsB; rw [if_neg h_14, if_pos h_30, decide_eq_false h_36, Bool.false_or, decide_eq_false h_47]])
        · refine n_iconst 1 hx hb dX0_lies_50 ?_
          refine n_goto 55 hx hb dX0_lies_51 (by decide) ?_
          exact g_zret (true) hx hb hrt hlocks dX0_lies_55 rfl (by rw [show lsB nn c0 A0 B0 = true from by unfold lsB; rw [if_neg h_14, if_pos h_30, decide_eq_false h_36, Bool.false_or, decide_eq_true h_47]])
  · refine lv_iload_n hx hb dX0_lies_17 rfl (lv_at hl 3 rfl) ?_
    refine lv_iload_n hx hb dX0_lies_18 rfl (lv_at hl 1 rfl) ?_
    refine n_lt (tgt := 26) hx hb dX0_lies_19 (by decide) (by omega) (by omega) (fun h_19 => ?_) (fun h_19 => ?_)
    · refine n_iconst 0 hx hb dX0_lies_26 ?_
      exact g_zret (false) hx hb hrt hlocks dX0_lies_27 rfl (by rw [show lsB nn c0 A0 B0 = false from by unfold lsB; rw [if_pos h_14, decide_eq_false (Nat.not_le.mpr h_19)]])
    · refine n_iconst 1 hx hb dX0_lies_22 ?_
      refine n_goto 27 hx hb dX0_lies_23 (by decide) ?_
      exact g_zret (true) hx hb hrt hlocks dX0_lies_27 rfl (by rw [show lsB nn c0 A0 B0 = true from by unfold lsB; rw [if_pos h_14, decide_eq_true h_19]])
set_option maxHeartbeats 4000000 in
set_option maxRecDepth 100000 in
theorem c_X0_lineThrough (l : Launch) {D : va_G} {tys : List (ClassId × FieldType)} {ad : Nat → Nat} {n : Nat} {E : Nat → va_E} {cI : ClassId} {t0 b nn : Nat} {c0 tt : Nat → Nat} (hI : tys[t0]? = some (cI, .int)) (hbn : b + 2 < n) (hw : isW cI ad E b nn c0 tt) {A0 B0 : Nat} (ht : tOK nn c0 tt) (hnn : nn ≤ 4) (hcb : CB nn c0) (hA0 : A0 ≤ 2 ^ nn * 2 ^ nn + 2 ^ nn) (hB0 : B0 ≤ 2 ^ nn * 2 ^ nn + 2 ^ nn) : Met l yX0_lineThrough wsX0_lineThrough ({ frames := 3, cells := 0, slots := 0, locals := 69 } : Room) (va_Pc [.ref (ad (b)), .int (nI (A0)), .int (nI (B0))] (PB D tys n ad (E))) (k2_QcV (.int (oI (ltS nn c0 A0 B0)))) 0 0 (fun _ => False) := by
  have p4 := pow4 hnn
  have p0 : 0 < 2 ^ nn := Nat.pow_pos (by decide)
  have p16 := sq4 p4
  have r1 := shr_le A0 nn
  have r2 := shr_le B0 nn
  have w1 := lw_lt nn A0
  have w2 := lw_lt nn B0
  refine g_pure (cc := cX0_lineThrough) (maxL := 8) (ret := (some .int)) (by decide) rfl (Nat.le_of_ble_eq_true rfl) ?_
  intro p e s m args below meth c hx hb hrt hts hown hlocks hml hP hK ls hl
  show W p l e ({ frames := 3, cells := 0, slots := 0, locals := 69 } : Room) s m args below meth c s.heap [] 0 0 _ _
  have hl : lv_has ls 8 [(0, .ref (ad (b))), (1, .int (nI (A0))), (2, .int (nI (B0)))] := hl
  refine lv_aload_n hx hb dX0_lineThrough_0 rfl (lv_at hl 0 rfl) ?_
  refine g_callS (As := [.ref (ad (b))]) (rest := []) (c_X0_insideOf l hI hbn hw) (va_cwS 1 hts gX0_lineThrough_X0_insideOf rfl rfl rfl (by decide +kernel) ⟨Nat.le_of_ble_eq_true rfl, Nat.le_of_ble_eq_true rfl⟩) hx hb hml hown hts hK hP  rfl hl.1 rfl (Nat.le_of_ble_eq_true rfl) (Nat.zero_le _) (Nat.zero_le _) dX0_lineThrough_1 ?_
  refine lv_istore_n (lv' := [(3, .int (nI (2 ^ nn * 2 ^ nn))), (0, .ref (ad (b))), (1, .int (nI (A0))), (2, .int (nI (B0)))]) hx hb dX0_lineThrough_4 rfl hl (by decide) rfl (fun ls hl => ?_)
  refine lv_aload_n hx hb dX0_lineThrough_5 rfl (lv_at hl 1 rfl) ?_
  refine g_callS (As := [.ref (ad (b))]) (rest := []) (c_X0_lastOf l hI hbn hw) (va_cwS 1 hts gX0_lineThrough_X0_lastOf rfl rfl rfl (by decide +kernel) ⟨Nat.le_of_ble_eq_true rfl, Nat.le_of_ble_eq_true rfl⟩) hx hb hml hown hts hK hP  rfl hl.1 rfl (Nat.le_of_ble_eq_true rfl) (Nat.zero_le _) (Nat.zero_le _) dX0_lineThrough_6 ?_
  refine lv_istore (lv' := [(4, .int (nI (2 ^ nn * 2 ^ nn + 2 ^ nn))), (3, .int (nI (2 ^ nn * 2 ^ nn))), (0, .ref (ad (b))), (1, .int (nI (A0))), (2, .int (nI (B0)))]) hx hb dX0_lineThrough_9 hl (by decide) rfl (fun ls hl => ?_)
  refine lv_iload_n hx hb dX0_lineThrough_11 rfl (lv_at hl 3 rfl) ?_
  refine lv_iload_n hx hb dX0_lineThrough_12 rfl (lv_at hl 1 rfl) ?_
  refine n_lt (tgt := 19) hx hb dX0_lineThrough_13 (by decide) (by omega) (by omega) (fun h_13 => ?_) (fun h_13 => ?_)
  · have v1 := hp_lt h_13
    refine lv_aload_n hx hb dX0_lineThrough_19 rfl (lv_at hl 2 rfl) ?_
    refine lv_iload_n hx hb dX0_lineThrough_20 rfl (lv_at hl 3 rfl) ?_
    refine g_callS (As := [.ref (ad (b)), .int (nI (A0))]) (rest := []) (c_X0_highPart l hI hbn hw (P := A0) hnn (by omega)) (va_cwS 2 hts gX0_lineThrough_X0_highPart rfl rfl rfl (by decide +kernel) ⟨Nat.le_of_ble_eq_true rfl, Nat.le_of_ble_eq_true rfl⟩) hx hb hml hown hts hK hP  rfl hl.1 rfl (Nat.le_of_ble_eq_true rfl) (Nat.zero_le _) (Nat.zero_le _) dX0_lineThrough_21 ?_
    refine lv_istore (lv' := [(5, .int (nI (A0 >>> nn))), (4, .int (nI (2 ^ nn * 2 ^ nn + 2 ^ nn))), (3, .int (nI (2 ^ nn * 2 ^ nn))), (0, .ref (ad (b))), (1, .int (nI (A0))), (2, .int (nI (B0)))]) hx hb dX0_lineThrough_24 hl (by decide) rfl (fun ls hl => ?_)
    refine lv_iload_n hx hb dX0_lineThrough_26 rfl (lv_at hl 5 rfl) ?_
    refine lv_iload hx hb dX0_lineThrough_27 (lv_at hl 1 rfl) ?_
    refine n_ceq (tgt := 42) hx hb dX0_lineThrough_29 (by decide) (by omega) (by omega) (fun h_29 => ?_) (fun h_29 => ?_)
    · refine lv_iload_n hx hb dX0_lineThrough_42 rfl (lv_at hl 2 rfl) ?_
      refine lv_iload hx hb dX0_lineThrough_43 (lv_at hl 0 rfl) ?_
      refine n_iadd hx hb dX0_lineThrough_45 ?_
      exact g_iret hx hb hrt hlocks dX0_lineThrough_46 (by rw [show ltS nn c0 A0 B0 = some _ from by unfold ltS; rw [if_neg (Nat.not_le.mpr h_13), if_pos (Or.inl h_29)]]; rfl)
    · refine lv_aload_n hx hb dX0_lineThrough_32 rfl (lv_at hl 3 rfl) ?_
      refine lv_iload_n hx hb dX0_lineThrough_33 rfl (lv_at hl 5 rfl) ?_
      refine g_callS (As := [.ref (ad (b)), .int (nI (B0))]) (rest := []) (c_X0_highPart l hI hbn hw (P := B0) hnn (by omega)) (va_cwS 2 hts gX0_lineThrough_X0_highPart rfl rfl rfl (by decide +kernel) ⟨Nat.le_of_ble_eq_true rfl, Nat.le_of_ble_eq_true rfl⟩) hx hb hml hown hts hK hP  rfl hl.1 rfl (Nat.le_of_ble_eq_true rfl) (Nat.zero_le _) (Nat.zero_le _) dX0_lineThrough_34 ?_
      refine lv_iload hx hb dX0_lineThrough_37 (lv_at hl 0 rfl) ?_
      refine n_cne (tgt := 47) hx hb dX0_lineThrough_39 (by decide) (by omega) (by omega) (fun h_39 => ?_) (fun h_39 => ?_)
      · refine lv_iload_n hx hb dX0_lineThrough_47 rfl (lv_at hl 5 rfl) ?_
        refine lv_iload_n hx hb dX0_lineThrough_48 rfl (lv_at hl 2 rfl) ?_
        refine lv_isub hx hb dX0_lineThrough_49 ?_
        refine lv_istore (lv' := [(6, .int (nI B0 - nI (2 ^ nn * 2 ^ nn))), (5, .int (nI (A0 >>> nn))), (4, .int (nI (2 ^ nn * 2 ^ nn + 2 ^ nn))), (3, .int (nI (2 ^ nn * 2 ^ nn))), (0, .ref (ad (b))), (1, .int (nI (A0))), (2, .int (nI (B0)))]) hx hb dX0_lineThrough_50 hl (by decide) rfl (fun ls hl => ?_)
        refine lv_iload_n hx hb dX0_lineThrough_52 rfl (lv_at hl 6 rfl) ?_
        refine lv_iload_n hx hb dX0_lineThrough_53 rfl (lv_at hl 3 rfl) ?_
        refine n_ge (tgt := 87) hx hb dX0_lineThrough_54 (by decide) (by omega) (by omega) (fun h_54 => ?_) (fun h_54 => ?_)
        · have hl : lv_has ls 8 [(6, .int (nI (B0 - 2 ^ nn * 2 ^ nn))), (5, .int (nI (A0 >>> nn))), (4, .int (nI (2 ^ nn * 2 ^ nn + 2 ^ nn))), (3, .int (nI (2 ^ nn * 2 ^ nn))), (0, .ref (ad (b))), (1, .int (nI (A0))), (2, .int (nI (B0)))] := by rw [← pk_sub h_54]; exact hl
          have e9 : ltM nn c0 false A0 B0 = some (B0 - 2 ^ nn * 2 ^ nn) := if_pos h_54
          refine lv_iload hx hb dX0_lineThrough_87 (lv_at hl 0 rfl) ?_
          refine n_eq (show nI (B0 - 2 ^ nn * 2 ^ nn) = oI (ltM nn c0 false A0 B0) from by rw [e9]; rfl) ?_
          refine lv_bipush (v := (-9)) hx hb dX0_lineThrough_89 (by decide) ?_
          refine n_cne_o (tgt := 99) hx hb dX0_lineThrough_91 (by decide) (fun k hk => by
          rw [e9] at hk
          first | (have := slv_lt hk; omega) | (have := Option.some.inj hk; omega)) (fun h_91 => ?_) (fun h_91 => ?_)
          · obtain ⟨m0, hm0⟩ : ∃ m0, ltM nn c0 false A0 B0 = some m0 := Option.ne_none_iff_exists'.mp h_91
            have hm1 : m0 < 2 ^ nn := by
              rw [e9] at hm0
              have := Option.some.inj hm0
              omega
            have hl : lv_has ls 8 [(6, .int (nI (m0))), (5, .int (nI (A0 >>> nn))), (4, .int (nI (2 ^ nn * 2 ^ nn + 2 ^ nn))), (3, .int (nI (2 ^ nn * 2 ^ nn))), (0, .ref (ad (b))), (1, .int (nI (A0))), (2, .int (nI (B0)))] := by rw [show m0 = (B0 - 2 ^ nn * 2 ^ nn) from Option.some.inj (hm0.symm.trans e9)]; exact hl
            refine lv_iload hx hb dX0_lineThrough_99 (lv_at hl 0 rfl) ?_
            refine lv_aload_n hx hb dX0_lineThrough_101 rfl (lv_at hl 4 rfl) ?_
            refine g_callV (b) (C := RX1) (T := TX1) (N := 4) (ci := 0) (As := []) (rest := [.int (nI (m0))]) (c_X1_bits l hI hbn hw) (cwV 0 hts gX0_lineThrough_X1_bits rfl rfl rfl (by decide +kernel) ⟨Nat.le_of_ble_eq_true rfl, Nat.le_of_ble_eq_true rfl⟩) hx hb hml hown hts hK hP  (by omega) hw.1 rfl rfl hl.1 rfl (Nat.le_of_ble_eq_true rfl) (Nat.zero_le _) (Nat.zero_le _) dX0_lineThrough_102 ?_
            refine n_ishl hx hb dX0_lineThrough_105 (by omega) ?_
            refine lv_aload_n hx hb dX0_lineThrough_106 rfl (lv_at hl 4 rfl) ?_
            refine lv_iload hx hb dX0_lineThrough_107 (lv_at hl 0 rfl) ?_
            refine lv_iload hx hb dX0_lineThrough_109 (lv_at hl 1 rfl) ?_
            refine g_callV (b) (C := RX1) (T := TX1) (N := 4) (ci := 0) (As := [.int (nI (m0)), .int (nI (A0 >>> nn))]) (rest := [.int (nI (m0 <<< nn))]) (c_X1_times l hI hbn hw (X := m0) (Y := A0 >>> nn) ht hnn (by omega) (by omega)) (cwV 2 hts gX0_lineThrough_X1_times rfl rfl rfl (by decide +kernel) ⟨Nat.le_of_ble_eq_true rfl, Nat.le_of_ble_eq_true rfl⟩) hx hb hml hown hts hK hP  (by omega) hw.1 rfl rfl hl.1 rfl (Nat.le_of_ble_eq_true rfl) (Nat.zero_le _) (Nat.zero_le _) dX0_lineThrough_111 ?_
            refine lv_aload_n hx hb dX0_lineThrough_114 rfl (lv_at hl 4 rfl) ?_
            refine lv_iload_n hx hb dX0_lineThrough_115 rfl (lv_at hl 5 rfl) ?_
            refine g_callS (As := [.ref (ad (b)), .int (nI (A0))]) (rest := [.int (nI (tm nn c0 m0 (A0 >>> nn))), .int (nI (m0 <<< nn))]) (c_X0_lowPart l hI hbn hw (P := A0)) (va_cwS 2 hts gX0_lineThrough_X0_lowPart rfl rfl rfl (by decide +kernel) ⟨Nat.le_of_ble_eq_true rfl, Nat.le_of_ble_eq_true rfl⟩) hx hb hml hown hts hK hP  rfl hl.1 rfl (Nat.le_of_ble_eq_true rfl) (Nat.zero_le _) (Nat.zero_le _) dX0_lineThrough_116 ?_
            refine n_ixor hx hb dX0_lineThrough_119 ?_
            refine n_ior hx hb dX0_lineThrough_120 ?_
            exact g_iret hx hb hrt hlocks dX0_lineThrough_121 (by rw [show ltS nn c0 A0 B0 = _ from by unfold ltS; rw [if_neg (Nat.not_le.mpr h_13), if_neg (fun z => z.elim h_29 h_39), hm0]]; rfl)
          · refine lv_bipush (v := (-9)) hx hb dX0_lineThrough_94 (by decide) ?_
            refine n_goto 121 hx hb dX0_lineThrough_96 (by decide) ?_
            exact g_iret hx hb hrt hlocks dX0_lineThrough_121 (by rw [show ltS nn c0 A0 B0 = none from by unfold ltS; rw [if_neg (Nat.not_le.mpr h_13), if_neg (fun z => z.elim h_29 h_39), h_91]; rfl]; rfl)
        · have e9 : ltM nn c0 false A0 B0 = slv nn c0 ((A0 >>> nn) ^^^ (B0 >>> nn)) ((A0 &&& (2 ^ nn - 1)) ^^^ (B0 &&& (2 ^ nn - 1))) false := if_neg (Nat.not_le.mpr h_54)
          have v2 := hp_lt h_54
          have v3 := Nat.xor_lt_two_pow v1 v2
          have w3 := Nat.xor_lt_two_pow w1 w2
          refine lv_aload_n hx hb dX0_lineThrough_57 rfl (lv_at hl 4 rfl) ?_
          refine lv_iload_n hx hb dX0_lineThrough_58 rfl (lv_at hl 5 rfl) ?_
          refine g_callS (As := [.ref (ad (b)), .int (nI (A0))]) (rest := []) (c_X0_lowPart l hI hbn hw (P := A0)) (va_cwS 2 hts gX0_lineThrough_X0_lowPart rfl rfl rfl (by decide +kernel) ⟨Nat.le_of_ble_eq_true rfl, Nat.le_of_ble_eq_true rfl⟩) hx hb hml hown hts hK hP  rfl hl.1 rfl (Nat.le_of_ble_eq_true rfl) (Nat.zero_le _) (Nat.zero_le _) dX0_lineThrough_59 ?_
          refine lv_aload_n hx hb dX0_lineThrough_62 rfl (lv_at hl 4 rfl) ?_
          refine lv_iload_n hx hb dX0_lineThrough_63 rfl (lv_at hl 6 rfl) ?_
          refine g_callS (As := [.ref (ad (b)), .int (nI (B0))]) (rest := [.int (nI (A0 &&& (2 ^ nn - 1)))]) (c_X0_lowPart l hI hbn hw (P := B0)) (va_cwS 2 hts gX0_lineThrough_X0_lowPart rfl rfl rfl (by decide +kernel) ⟨Nat.le_of_ble_eq_true rfl, Nat.le_of_ble_eq_true rfl⟩) hx hb hml hown hts hK hP  rfl hl.1 rfl (Nat.le_of_ble_eq_true rfl) (Nat.zero_le _) (Nat.zero_le _) dX0_lineThrough_64 ?_
          refine n_ixor hx hb dX0_lineThrough_67 ?_
          refine lv_istore (lv' := [(7, .int (nI ((A0 &&& (2 ^ nn - 1)) ^^^ (B0 &&& (2 ^ nn - 1))))), (6, .int (nI B0 - nI (2 ^ nn * 2 ^ nn))), (5, .int (nI (A0 >>> nn))), (4, .int (nI (2 ^ nn * 2 ^ nn + 2 ^ nn))), (3, .int (nI (2 ^ nn * 2 ^ nn))), (0, .ref (ad (b))), (1, .int (nI (A0))), (2, .int (nI (B0)))]) hx hb dX0_lineThrough_68 hl (by decide) rfl (fun ls hl => ?_)
          refine lv_aload_n hx hb dX0_lineThrough_70 rfl (lv_at hl 5 rfl) ?_
          refine lv_iload hx hb dX0_lineThrough_71 (lv_at hl 2 rfl) ?_
          refine lv_aload_n hx hb dX0_lineThrough_73 rfl (lv_at hl 5 rfl) ?_
          refine lv_iload_n hx hb dX0_lineThrough_74 rfl (lv_at hl 7 rfl) ?_
          refine g_callS (As := [.ref (ad (b)), .int (nI (B0))]) (rest := [.int (nI (A0 >>> nn)), .ref (ad (b))]) (c_X0_highPart l hI hbn hw (P := B0) hnn (by omega)) (va_cwS 2 hts gX0_lineThrough_X0_highPart rfl rfl rfl (by decide +kernel) ⟨Nat.le_of_ble_eq_true rfl, Nat.le_of_ble_eq_true rfl⟩) hx hb hml hown hts hK hP  rfl hl.1 rfl (Nat.le_of_ble_eq_true rfl) (Nat.zero_le _) (Nat.zero_le _) dX0_lineThrough_75 ?_
          refine n_ixor hx hb dX0_lineThrough_78 ?_
          refine lv_iload hx hb dX0_lineThrough_79 (lv_at hl 0 rfl) ?_
          refine n_iconst 0 hx hb dX0_lineThrough_81 ?_
          refine n_eq (show nI 0 = bI false from rfl) ?_
          refine g_callV (b) (C := RX1) (T := TX1) (N := 4) (ci := 0) (As := [.int (nI ((A0 >>> nn) ^^^ (B0 >>> nn))), .int (nI ((A0 &&& (2 ^ nn - 1)) ^^^ (B0 &&& (2 ^ nn - 1)))), .int (bI (false))]) (rest := []) (c_X1_solve l hI hbn hw (X := (A0 >>> nn) ^^^ (B0 >>> nn)) (Z := (A0 &&& (2 ^ nn - 1)) ^^^ (B0 &&& (2 ^ nn - 1))) (L := false) ht hnn hcb v3 w3) (cwV 3 hts gX0_lineThrough_X1_solve rfl rfl rfl (by decide +kernel) ⟨Nat.le_of_ble_eq_true rfl, Nat.le_of_ble_eq_true rfl⟩) hx hb hml hown hts hK hP  (by omega) hw.1 rfl rfl hl.1 rfl (Nat.le_of_ble_eq_true rfl) (Nat.zero_le _) (Nat.zero_le _) dX0_lineThrough_82 ?_
          refine lv_istore (lv' := [(6, .int (oI (slv nn c0 ((A0 >>> nn) ^^^ (B0 >>> nn)) ((A0 &&& (2 ^ nn - 1)) ^^^ (B0 &&& (2 ^ nn - 1))) false))), (7, .int (nI ((A0 &&& (2 ^ nn - 1)) ^^^ (B0 &&& (2 ^ nn - 1))))), (5, .int (nI (A0 >>> nn))), (4, .int (nI (2 ^ nn * 2 ^ nn + 2 ^ nn))), (3, .int (nI (2 ^ nn * 2 ^ nn))), (0, .ref (ad (b))), (1, .int (nI (A0))), (2, .int (nI (B0)))]) hx hb dX0_lineThrough_85 hl (by decide) rfl (fun ls hl => ?_)
          refine lv_iload hx hb dX0_lineThrough_87 (lv_at hl 0 rfl) ?_
          refine n_eq (show oI (slv nn c0 ((A0 >>> nn) ^^^ (B0 >>> nn)) ((A0 &&& (2 ^ nn - 1)) ^^^ (B0 &&& (2 ^ nn - 1))) false) = oI (ltM nn c0 false A0 B0) from by rw [e9]) ?_
          refine lv_bipush (v := (-9)) hx hb dX0_lineThrough_89 (by decide) ?_
          refine n_cne_o (tgt := 99) hx hb dX0_lineThrough_91 (by decide) (fun k hk => by
          rw [e9] at hk
          first | (have := slv_lt hk; omega) | (have := Option.some.inj hk; omega)) (fun h_91 => ?_) (fun h_91 => ?_)
          · obtain ⟨m0, hm0⟩ : ∃ m0, ltM nn c0 false A0 B0 = some m0 := Option.ne_none_iff_exists'.mp h_91
            have hm1 : m0 < 2 ^ nn := by
              rw [e9] at hm0
              exact slv_lt hm0
            have hl : lv_has ls 8 [(6, .int (nI (m0))), (7, .int (nI ((A0 &&& (2 ^ nn - 1)) ^^^ (B0 &&& (2 ^ nn - 1))))), (5, .int (nI (A0 >>> nn))), (4, .int (nI (2 ^ nn * 2 ^ nn + 2 ^ nn))), (3, .int (nI (2 ^ nn * 2 ^ nn))), (0, .ref (ad (b))), (1, .int (nI (A0))), (2, .int (nI (B0)))] := by rw [show nI m0 = oI (slv nn c0 ((A0 >>> nn) ^^^ (B0 >>> nn)) ((A0 &&& (2 ^ nn - 1)) ^^^ (B0 &&& (2 ^ nn - 1))) false) from by rw [← e9, hm0]; rfl]; exact hl
            refine lv_iload hx hb dX0_lineThrough_99 (lv_at hl 0 rfl) ?_
            refine lv_aload_n hx hb dX0_lineThrough_101 rfl (lv_at hl 5 rfl) ?_
            refine g_callV (b) (C := RX1) (T := TX1) (N := 4) (ci := 0) (As := []) (rest := [.int (nI (m0))]) (c_X1_bits l hI hbn hw) (cwV 0 hts gX0_lineThrough_X1_bits rfl rfl rfl (by decide +kernel) ⟨Nat.le_of_ble_eq_true rfl, Nat.le_of_ble_eq_true rfl⟩) hx hb hml hown hts hK hP  (by omega) hw.1 rfl rfl hl.1 rfl (Nat.le_of_ble_eq_true rfl) (Nat.zero_le _) (Nat.zero_le _) dX0_lineThrough_102 ?_
            refine n_ishl hx hb dX0_lineThrough_105 (by omega) ?_
            refine lv_aload_n hx hb dX0_lineThrough_106 rfl (lv_at hl 5 rfl) ?_
            refine lv_iload hx hb dX0_lineThrough_107 (lv_at hl 0 rfl) ?_
            refine lv_iload hx hb dX0_lineThrough_109 (lv_at hl 2 rfl) ?_
            refine g_callV (b) (C := RX1) (T := TX1) (N := 4) (ci := 0) (As := [.int (nI (m0)), .int (nI (A0 >>> nn))]) (rest := [.int (nI (m0 <<< nn))]) (c_X1_times l hI hbn hw (X := m0) (Y := A0 >>> nn) ht hnn (by omega) (by omega)) (cwV 2 hts gX0_lineThrough_X1_times rfl rfl rfl (by decide +kernel) ⟨Nat.le_of_ble_eq_true rfl, Nat.le_of_ble_eq_true rfl⟩) hx hb hml hown hts hK hP  (by omega) hw.1 rfl rfl hl.1 rfl (Nat.le_of_ble_eq_true rfl) (Nat.zero_le _) (Nat.zero_le _) dX0_lineThrough_111 ?_
            refine lv_aload_n hx hb dX0_lineThrough_114 rfl (lv_at hl 5 rfl) ?_
            refine lv_iload_n hx hb dX0_lineThrough_115 rfl (lv_at hl 6 rfl) ?_
            refine g_callS (As := [.ref (ad (b)), .int (nI (A0))]) (rest := [.int (nI (tm nn c0 m0 (A0 >>> nn))), .int (nI (m0 <<< nn))]) (c_X0_lowPart l hI hbn hw (P := A0)) (va_cwS 2 hts gX0_lineThrough_X0_lowPart rfl rfl rfl (by decide +kernel) ⟨Nat.le_of_ble_eq_true rfl, Nat.le_of_ble_eq_true rfl⟩) hx hb hml hown hts hK hP  rfl hl.1 rfl (Nat.le_of_ble_eq_true rfl) (Nat.zero_le _) (Nat.zero_le _) dX0_lineThrough_116 ?_
            refine n_ixor hx hb dX0_lineThrough_119 ?_
            refine n_ior hx hb dX0_lineThrough_120 ?_
            exact g_iret hx hb hrt hlocks dX0_lineThrough_121 (by rw [show ltS nn c0 A0 B0 = _ from by unfold ltS; rw [if_neg (Nat.not_le.mpr h_13), if_neg (fun z => z.elim h_29 h_39), hm0]]; rfl)
          · refine lv_bipush (v := (-9)) hx hb dX0_lineThrough_94 (by decide) ?_
            refine n_goto 121 hx hb dX0_lineThrough_96 (by decide) ?_
            exact g_iret hx hb hrt hlocks dX0_lineThrough_121 (by rw [show ltS nn c0 A0 B0 = none from by unfold ltS; rw [if_neg (Nat.not_le.mpr h_13), if_neg (fun z => z.elim h_29 h_39), h_91]; rfl]; rfl)
      · refine lv_iload_n hx hb dX0_lineThrough_42 rfl (lv_at hl 2 rfl) ?_
        refine lv_iload hx hb dX0_lineThrough_43 (lv_at hl 0 rfl) ?_
        refine n_iadd hx hb dX0_lineThrough_45 ?_
        exact g_iret hx hb hrt hlocks dX0_lineThrough_46 (by rw [show ltS nn c0 A0 B0 = some _ from by unfold ltS; rw [if_neg (Nat.not_le.mpr h_13), if_pos (Or.inr h_39)]]; rfl)
  · refine lv_iload hx hb dX0_lineThrough_16 (lv_at hl 0 rfl) ?_
    exact g_iret hx hb hrt hlocks dX0_lineThrough_18 (by rw [show ltS nn c0 A0 B0 = some _ from by unfold ltS; rw [if_pos h_13]]; rfl)
set_option maxHeartbeats 4000000 in
set_option maxRecDepth 100000 in
theorem c_X0_pointOfBoth (l : Launch) {D : va_G} {tys : List (ClassId × FieldType)} {ad : Nat → Nat} {n : Nat} {E : Nat → va_E} {cI : ClassId} {t0 b nn : Nat} {c0 tt : Nat → Nat} (hI : tys[t0]? = some (cI, .int)) (hbn : b + 2 < n) (hw : isW cI ad E b nn c0 tt) {A0 B0 : Nat} (ht : tOK nn c0 tt) (hnn : nn ≤ 4) (hcb : CB nn c0) (hA0 : A0 ≤ 2 ^ nn * 2 ^ nn + 2 ^ nn) (hB0 : B0 ≤ 2 ^ nn * 2 ^ nn + 2 ^ nn) : Met l yX0_pointOfBoth wsX0_pointOfBoth ({ frames := 3, cells := 0, slots := 0, locals := 69 } : Room) (va_Pc [.ref (ad (b)), .int (nI (A0)), .int (nI (B0))] (PB D tys n ad (E))) (k2_QcV (.int (oI (mtS nn c0 A0 B0)))) 0 0 (fun _ => False) := by
  have p4 := pow4 hnn
  have p0 : 0 < 2 ^ nn := Nat.pow_pos (by decide)
  have p16 := sq4 p4
  have r1 := shr_le A0 nn
  have r2 := shr_le B0 nn
  have w1 := lw_lt nn A0
  have w2 := lw_lt nn B0
  refine g_pure (cc := cX0_pointOfBoth) (maxL := 8) (ret := (some .int)) (by decide) rfl (Nat.le_of_ble_eq_true rfl) ?_
  intro p e s m args below meth c hx hb hrt hts hown hlocks hml hP hK ls hl
  show W p l e ({ frames := 3, cells := 0, slots := 0, locals := 69 } : Room) s m args below meth c s.heap [] 0 0 _ _
  have hl : lv_has ls 8 [(0, .ref (ad (b))), (1, .int (nI (A0))), (2, .int (nI (B0)))] := hl
  refine lv_aload_n hx hb dX0_pointOfBoth_0 rfl (lv_at hl 0 rfl) ?_
  refine g_callS (As := [.ref (ad (b))]) (rest := []) (c_X0_insideOf l hI hbn hw) (va_cwS 1 hts gX0_pointOfBoth_X0_insideOf rfl rfl rfl (by decide +kernel) ⟨Nat.le_of_ble_eq_true rfl, Nat.le_of_ble_eq_true rfl⟩) hx hb hml hown hts hK hP  rfl hl.1 rfl (Nat.le_of_ble_eq_true rfl) (Nat.zero_le _) (Nat.zero_le _) dX0_pointOfBoth_1 ?_
  refine lv_istore_n (lv' := [(3, .int (nI (2 ^ nn * 2 ^ nn))), (0, .ref (ad (b))), (1, .int (nI (A0))), (2, .int (nI (B0)))]) hx hb dX0_pointOfBoth_4 rfl hl (by decide) rfl (fun ls hl => ?_)
  refine lv_aload_n hx hb dX0_pointOfBoth_5 rfl (lv_at hl 1 rfl) ?_
  refine g_callS (As := [.ref (ad (b))]) (rest := []) (c_X0_lastOf l hI hbn hw) (va_cwS 1 hts gX0_pointOfBoth_X0_lastOf rfl rfl rfl (by decide +kernel) ⟨Nat.le_of_ble_eq_true rfl, Nat.le_of_ble_eq_true rfl⟩) hx hb hml hown hts hK hP  rfl hl.1 rfl (Nat.le_of_ble_eq_true rfl) (Nat.zero_le _) (Nat.zero_le _) dX0_pointOfBoth_6 ?_
  refine lv_istore (lv' := [(4, .int (nI (2 ^ nn * 2 ^ nn + 2 ^ nn))), (3, .int (nI (2 ^ nn * 2 ^ nn))), (0, .ref (ad (b))), (1, .int (nI (A0))), (2, .int (nI (B0)))]) hx hb dX0_pointOfBoth_9 hl (by decide) rfl (fun ls hl => ?_)
  refine lv_iload_n hx hb dX0_pointOfBoth_11 rfl (lv_at hl 3 rfl) ?_
  refine lv_iload_n hx hb dX0_pointOfBoth_12 rfl (lv_at hl 1 rfl) ?_
  refine n_lt (tgt := 19) hx hb dX0_pointOfBoth_13 (by decide) (by omega) (by omega) (fun h_13 => ?_) (fun h_13 => ?_)
  · have v1 := hp_lt h_13
    refine lv_aload_n hx hb dX0_pointOfBoth_19 rfl (lv_at hl 2 rfl) ?_
    refine lv_iload_n hx hb dX0_pointOfBoth_20 rfl (lv_at hl 3 rfl) ?_
    refine g_callS (As := [.ref (ad (b)), .int (nI (A0))]) (rest := []) (c_X0_highPart l hI hbn hw (P := A0) hnn (by omega)) (va_cwS 2 hts gX0_pointOfBoth_X0_highPart rfl rfl rfl (by decide +kernel) ⟨Nat.le_of_ble_eq_true rfl, Nat.le_of_ble_eq_true rfl⟩) hx hb hml hown hts hK hP  rfl hl.1 rfl (Nat.le_of_ble_eq_true rfl) (Nat.zero_le _) (Nat.zero_le _) dX0_pointOfBoth_21 ?_
    refine lv_istore (lv' := [(5, .int (nI (A0 >>> nn))), (4, .int (nI (2 ^ nn * 2 ^ nn + 2 ^ nn))), (3, .int (nI (2 ^ nn * 2 ^ nn))), (0, .ref (ad (b))), (1, .int (nI (A0))), (2, .int (nI (B0)))]) hx hb dX0_pointOfBoth_24 hl (by decide) rfl (fun ls hl => ?_)
    refine lv_iload_n hx hb dX0_pointOfBoth_26 rfl (lv_at hl 5 rfl) ?_
    refine lv_iload hx hb dX0_pointOfBoth_27 (lv_at hl 1 rfl) ?_
    refine n_ceq (tgt := 42) hx hb dX0_pointOfBoth_29 (by decide) (by omega) (by omega) (fun h_29 => ?_) (fun h_29 => ?_)
    · refine lv_iload_n hx hb dX0_pointOfBoth_42 rfl (lv_at hl 2 rfl) ?_
      refine lv_iload hx hb dX0_pointOfBoth_43 (lv_at hl 0 rfl) ?_
      refine n_iadd hx hb dX0_pointOfBoth_45 ?_
      exact g_iret hx hb hrt hlocks dX0_pointOfBoth_46 (by rw [show mtS nn c0 A0 B0 = some _ from by unfold mtS; rw [if_neg (Nat.not_le.mpr h_13), if_pos (Or.inl h_29)]]; rfl)
    · refine lv_aload_n hx hb dX0_pointOfBoth_32 rfl (lv_at hl 3 rfl) ?_
      refine lv_iload_n hx hb dX0_pointOfBoth_33 rfl (lv_at hl 5 rfl) ?_
      refine g_callS (As := [.ref (ad (b)), .int (nI (B0))]) (rest := []) (c_X0_highPart l hI hbn hw (P := B0) hnn (by omega)) (va_cwS 2 hts gX0_pointOfBoth_X0_highPart rfl rfl rfl (by decide +kernel) ⟨Nat.le_of_ble_eq_true rfl, Nat.le_of_ble_eq_true rfl⟩) hx hb hml hown hts hK hP  rfl hl.1 rfl (Nat.le_of_ble_eq_true rfl) (Nat.zero_le _) (Nat.zero_le _) dX0_pointOfBoth_34 ?_
      refine lv_iload hx hb dX0_pointOfBoth_37 (lv_at hl 0 rfl) ?_
      refine n_cne (tgt := 47) hx hb dX0_pointOfBoth_39 (by decide) (by omega) (by omega) (fun h_39 => ?_) (fun h_39 => ?_)
      · refine lv_iload_n hx hb dX0_pointOfBoth_47 rfl (lv_at hl 5 rfl) ?_
        refine lv_iload_n hx hb dX0_pointOfBoth_48 rfl (lv_at hl 2 rfl) ?_
        refine lv_isub hx hb dX0_pointOfBoth_49 ?_
        refine lv_istore (lv' := [(6, .int (nI B0 - nI (2 ^ nn * 2 ^ nn))), (5, .int (nI (A0 >>> nn))), (4, .int (nI (2 ^ nn * 2 ^ nn + 2 ^ nn))), (3, .int (nI (2 ^ nn * 2 ^ nn))), (0, .ref (ad (b))), (1, .int (nI (A0))), (2, .int (nI (B0)))]) hx hb dX0_pointOfBoth_50 hl (by decide) rfl (fun ls hl => ?_)
        refine lv_iload_n hx hb dX0_pointOfBoth_52 rfl (lv_at hl 6 rfl) ?_
        refine lv_iload_n hx hb dX0_pointOfBoth_53 rfl (lv_at hl 3 rfl) ?_
        refine n_ge (tgt := 87) hx hb dX0_pointOfBoth_54 (by decide) (by omega) (by omega) (fun h_54 => ?_) (fun h_54 => ?_)
        · have hl : lv_has ls 8 [(6, .int (nI (B0 - 2 ^ nn * 2 ^ nn))), (5, .int (nI (A0 >>> nn))), (4, .int (nI (2 ^ nn * 2 ^ nn + 2 ^ nn))), (3, .int (nI (2 ^ nn * 2 ^ nn))), (0, .ref (ad (b))), (1, .int (nI (A0))), (2, .int (nI (B0)))] := by rw [← pk_sub h_54]; exact hl
          have e9 : ltM nn c0 true A0 B0 = some (B0 - 2 ^ nn * 2 ^ nn) := if_pos h_54
          refine lv_iload hx hb dX0_pointOfBoth_87 (lv_at hl 0 rfl) ?_
          refine n_eq (show nI (B0 - 2 ^ nn * 2 ^ nn) = oI (ltM nn c0 true A0 B0) from by rw [e9]; rfl) ?_
          refine lv_bipush (v := (-9)) hx hb dX0_pointOfBoth_89 (by decide) ?_
          refine n_cne_o (tgt := 99) hx hb dX0_pointOfBoth_91 (by decide) (fun k hk => by
          rw [e9] at hk
          first | (have := slv_lt hk; omega) | (have := Option.some.inj hk; omega)) (fun h_91 => ?_) (fun h_91 => ?_)
          · obtain ⟨m0, hm0⟩ : ∃ m0, ltM nn c0 true A0 B0 = some m0 := Option.ne_none_iff_exists'.mp h_91
            have hm1 : m0 < 2 ^ nn := by
              rw [e9] at hm0
              have := Option.some.inj hm0
              omega
            have hl : lv_has ls 8 [(6, .int (nI (m0))), (5, .int (nI (A0 >>> nn))), (4, .int (nI (2 ^ nn * 2 ^ nn + 2 ^ nn))), (3, .int (nI (2 ^ nn * 2 ^ nn))), (0, .ref (ad (b))), (1, .int (nI (A0))), (2, .int (nI (B0)))] := by rw [show m0 = (B0 - 2 ^ nn * 2 ^ nn) from Option.some.inj (hm0.symm.trans e9)]; exact hl
            refine lv_iload hx hb dX0_pointOfBoth_99 (lv_at hl 0 rfl) ?_
            refine lv_aload_n hx hb dX0_pointOfBoth_101 rfl (lv_at hl 4 rfl) ?_
            refine g_callV (b) (C := RX1) (T := TX1) (N := 4) (ci := 0) (As := []) (rest := [.int (nI (m0))]) (c_X1_bits l hI hbn hw) (cwV 0 hts gX0_pointOfBoth_X1_bits rfl rfl rfl (by decide +kernel) ⟨Nat.le_of_ble_eq_true rfl, Nat.le_of_ble_eq_true rfl⟩) hx hb hml hown hts hK hP  (by omega) hw.1 rfl rfl hl.1 rfl (Nat.le_of_ble_eq_true rfl) (Nat.zero_le _) (Nat.zero_le _) dX0_pointOfBoth_102 ?_
            refine n_ishl hx hb dX0_pointOfBoth_105 (by omega) ?_
            refine lv_aload_n hx hb dX0_pointOfBoth_106 rfl (lv_at hl 4 rfl) ?_
            refine lv_iload hx hb dX0_pointOfBoth_107 (lv_at hl 1 rfl) ?_
            refine lv_iload hx hb dX0_pointOfBoth_109 (lv_at hl 0 rfl) ?_
            refine g_callV (b) (C := RX1) (T := TX1) (N := 4) (ci := 0) (As := [.int (nI (A0 >>> nn)), .int (nI (m0))]) (rest := [.int (nI (m0 <<< nn))]) (c_X1_times l hI hbn hw (X := A0 >>> nn) (Y := m0) ht hnn (by omega) (by omega)) (cwV 2 hts gX0_pointOfBoth_X1_times rfl rfl rfl (by decide +kernel) ⟨Nat.le_of_ble_eq_true rfl, Nat.le_of_ble_eq_true rfl⟩) hx hb hml hown hts hK hP  (by omega) hw.1 rfl rfl hl.1 rfl (Nat.le_of_ble_eq_true rfl) (Nat.zero_le _) (Nat.zero_le _) dX0_pointOfBoth_111 ?_
            refine lv_aload_n hx hb dX0_pointOfBoth_114 rfl (lv_at hl 4 rfl) ?_
            refine lv_iload_n hx hb dX0_pointOfBoth_115 rfl (lv_at hl 5 rfl) ?_
            refine g_callS (As := [.ref (ad (b)), .int (nI (A0))]) (rest := [.int (nI (tm nn c0 (A0 >>> nn) m0)), .int (nI (m0 <<< nn))]) (c_X0_lowPart l hI hbn hw (P := A0)) (va_cwS 2 hts gX0_pointOfBoth_X0_lowPart rfl rfl rfl (by decide +kernel) ⟨Nat.le_of_ble_eq_true rfl, Nat.le_of_ble_eq_true rfl⟩) hx hb hml hown hts hK hP  rfl hl.1 rfl (Nat.le_of_ble_eq_true rfl) (Nat.zero_le _) (Nat.zero_le _) dX0_pointOfBoth_116 ?_
            refine n_ixor hx hb dX0_pointOfBoth_119 ?_
            refine n_ior hx hb dX0_pointOfBoth_120 ?_
            exact g_iret hx hb hrt hlocks dX0_pointOfBoth_121 (by rw [show mtS nn c0 A0 B0 = _ from by unfold mtS; rw [if_neg (Nat.not_le.mpr h_13), if_neg (fun z => z.elim h_29 h_39), hm0]]; rfl)
          · refine lv_bipush (v := (-9)) hx hb dX0_pointOfBoth_94 (by decide) ?_
            refine n_goto 121 hx hb dX0_pointOfBoth_96 (by decide) ?_
            exact g_iret hx hb hrt hlocks dX0_pointOfBoth_121 (by rw [show mtS nn c0 A0 B0 = none from by unfold mtS; rw [if_neg (Nat.not_le.mpr h_13), if_neg (fun z => z.elim h_29 h_39), h_91]; rfl]; rfl)
        · have e9 : ltM nn c0 true A0 B0 = slv nn c0 ((A0 >>> nn) ^^^ (B0 >>> nn)) ((A0 &&& (2 ^ nn - 1)) ^^^ (B0 &&& (2 ^ nn - 1))) true := if_neg (Nat.not_le.mpr h_54)
          have v2 := hp_lt h_54
          have v3 := Nat.xor_lt_two_pow v1 v2
          have w3 := Nat.xor_lt_two_pow w1 w2
          refine lv_aload_n hx hb dX0_pointOfBoth_57 rfl (lv_at hl 4 rfl) ?_
          refine lv_iload_n hx hb dX0_pointOfBoth_58 rfl (lv_at hl 5 rfl) ?_
          refine g_callS (As := [.ref (ad (b)), .int (nI (A0))]) (rest := []) (c_X0_lowPart l hI hbn hw (P := A0)) (va_cwS 2 hts gX0_pointOfBoth_X0_lowPart rfl rfl rfl (by decide +kernel) ⟨Nat.le_of_ble_eq_true rfl, Nat.le_of_ble_eq_true rfl⟩) hx hb hml hown hts hK hP  rfl hl.1 rfl (Nat.le_of_ble_eq_true rfl) (Nat.zero_le _) (Nat.zero_le _) dX0_pointOfBoth_59 ?_
          refine lv_aload_n hx hb dX0_pointOfBoth_62 rfl (lv_at hl 4 rfl) ?_
          refine lv_iload_n hx hb dX0_pointOfBoth_63 rfl (lv_at hl 6 rfl) ?_
          refine g_callS (As := [.ref (ad (b)), .int (nI (B0))]) (rest := [.int (nI (A0 &&& (2 ^ nn - 1)))]) (c_X0_lowPart l hI hbn hw (P := B0)) (va_cwS 2 hts gX0_pointOfBoth_X0_lowPart rfl rfl rfl (by decide +kernel) ⟨Nat.le_of_ble_eq_true rfl, Nat.le_of_ble_eq_true rfl⟩) hx hb hml hown hts hK hP  rfl hl.1 rfl (Nat.le_of_ble_eq_true rfl) (Nat.zero_le _) (Nat.zero_le _) dX0_pointOfBoth_64 ?_
          refine n_ixor hx hb dX0_pointOfBoth_67 ?_
          refine lv_istore (lv' := [(7, .int (nI ((A0 &&& (2 ^ nn - 1)) ^^^ (B0 &&& (2 ^ nn - 1))))), (6, .int (nI B0 - nI (2 ^ nn * 2 ^ nn))), (5, .int (nI (A0 >>> nn))), (4, .int (nI (2 ^ nn * 2 ^ nn + 2 ^ nn))), (3, .int (nI (2 ^ nn * 2 ^ nn))), (0, .ref (ad (b))), (1, .int (nI (A0))), (2, .int (nI (B0)))]) hx hb dX0_pointOfBoth_68 hl (by decide) rfl (fun ls hl => ?_)
          refine lv_aload_n hx hb dX0_pointOfBoth_70 rfl (lv_at hl 5 rfl) ?_
          refine lv_iload hx hb dX0_pointOfBoth_71 (lv_at hl 2 rfl) ?_
          refine lv_aload_n hx hb dX0_pointOfBoth_73 rfl (lv_at hl 5 rfl) ?_
          refine lv_iload_n hx hb dX0_pointOfBoth_74 rfl (lv_at hl 7 rfl) ?_
          refine g_callS (As := [.ref (ad (b)), .int (nI (B0))]) (rest := [.int (nI (A0 >>> nn)), .ref (ad (b))]) (c_X0_highPart l hI hbn hw (P := B0) hnn (by omega)) (va_cwS 2 hts gX0_pointOfBoth_X0_highPart rfl rfl rfl (by decide +kernel) ⟨Nat.le_of_ble_eq_true rfl, Nat.le_of_ble_eq_true rfl⟩) hx hb hml hown hts hK hP  rfl hl.1 rfl (Nat.le_of_ble_eq_true rfl) (Nat.zero_le _) (Nat.zero_le _) dX0_pointOfBoth_75 ?_
          refine n_ixor hx hb dX0_pointOfBoth_78 ?_
          refine lv_iload hx hb dX0_pointOfBoth_79 (lv_at hl 0 rfl) ?_
          refine n_iconst 1 hx hb dX0_pointOfBoth_81 ?_
          refine n_eq (show nI 1 = bI true from rfl) ?_
          refine g_callV (b) (C := RX1) (T := TX1) (N := 4) (ci := 0) (As := [.int (nI ((A0 >>> nn) ^^^ (B0 >>> nn))), .int (nI ((A0 &&& (2 ^ nn - 1)) ^^^ (B0 &&& (2 ^ nn - 1)))), .int (bI (true))]) (rest := []) (c_X1_solve l hI hbn hw (X := (A0 >>> nn) ^^^ (B0 >>> nn)) (Z := (A0 &&& (2 ^ nn - 1)) ^^^ (B0 &&& (2 ^ nn - 1))) (L := true) ht hnn hcb v3 w3) (cwV 3 hts gX0_pointOfBoth_X1_solve rfl rfl rfl (by decide +kernel) ⟨Nat.le_of_ble_eq_true rfl, Nat.le_of_ble_eq_true rfl⟩) hx hb hml hown hts hK hP  (by omega) hw.1 rfl rfl hl.1 rfl (Nat.le_of_ble_eq_true rfl) (Nat.zero_le _) (Nat.zero_le _) dX0_pointOfBoth_82 ?_
          refine lv_istore (lv' := [(6, .int (oI (slv nn c0 ((A0 >>> nn) ^^^ (B0 >>> nn)) ((A0 &&& (2 ^ nn - 1)) ^^^ (B0 &&& (2 ^ nn - 1))) true))), (7, .int (nI ((A0 &&& (2 ^ nn - 1)) ^^^ (B0 &&& (2 ^ nn - 1))))), (5, .int (nI (A0 >>> nn))), (4, .int (nI (2 ^ nn * 2 ^ nn + 2 ^ nn))), (3, .int (nI (2 ^ nn * 2 ^ nn))), (0, .ref (ad (b))), (1, .int (nI (A0))), (2, .int (nI (B0)))]) hx hb dX0_pointOfBoth_85 hl (by decide) rfl (fun ls hl => ?_)
          refine lv_iload hx hb dX0_pointOfBoth_87 (lv_at hl 0 rfl) ?_
          refine n_eq (show oI (slv nn c0 ((A0 >>> nn) ^^^ (B0 >>> nn)) ((A0 &&& (2 ^ nn - 1)) ^^^ (B0 &&& (2 ^ nn - 1))) true) = oI (ltM nn c0 true A0 B0) from by rw [e9]) ?_
          refine lv_bipush (v := (-9)) hx hb dX0_pointOfBoth_89 (by decide) ?_
          refine n_cne_o (tgt := 99) hx hb dX0_pointOfBoth_91 (by decide) (fun k hk => by
          rw [e9] at hk
          first | (have := slv_lt hk; omega) | (have := Option.some.inj hk; omega)) (fun h_91 => ?_) (fun h_91 => ?_)
          · obtain ⟨m0, hm0⟩ : ∃ m0, ltM nn c0 true A0 B0 = some m0 := Option.ne_none_iff_exists'.mp h_91
            have hm1 : m0 < 2 ^ nn := by
              rw [e9] at hm0
              exact slv_lt hm0
            have hl : lv_has ls 8 [(6, .int (nI (m0))), (7, .int (nI ((A0 &&& (2 ^ nn - 1)) ^^^ (B0 &&& (2 ^ nn - 1))))), (5, .int (nI (A0 >>> nn))), (4, .int (nI (2 ^ nn * 2 ^ nn + 2 ^ nn))), (3, .int (nI (2 ^ nn * 2 ^ nn))), (0, .ref (ad (b))), (1, .int (nI (A0))), (2, .int (nI (B0)))] := by rw [show nI m0 = oI (slv nn c0 ((A0 >>> nn) ^^^ (B0 >>> nn)) ((A0 &&& (2 ^ nn - 1)) ^^^ (B0 &&& (2 ^ nn - 1))) true) from by rw [← e9, hm0]; rfl]; exact hl
            refine lv_iload hx hb dX0_pointOfBoth_99 (lv_at hl 0 rfl) ?_
            refine lv_aload_n hx hb dX0_pointOfBoth_101 rfl (lv_at hl 5 rfl) ?_
            refine g_callV (b) (C := RX1) (T := TX1) (N := 4) (ci := 0) (As := []) (rest := [.int (nI (m0))]) (c_X1_bits l hI hbn hw) (cwV 0 hts gX0_pointOfBoth_X1_bits rfl rfl rfl (by decide +kernel) ⟨Nat.le_of_ble_eq_true rfl, Nat.le_of_ble_eq_true rfl⟩) hx hb hml hown hts hK hP  (by omega) hw.1 rfl rfl hl.1 rfl (Nat.le_of_ble_eq_true rfl) (Nat.zero_le _) (Nat.zero_le _) dX0_pointOfBoth_102 ?_
            refine n_ishl hx hb dX0_pointOfBoth_105 (by omega) ?_
            refine lv_aload_n hx hb dX0_pointOfBoth_106 rfl (lv_at hl 5 rfl) ?_
            refine lv_iload hx hb dX0_pointOfBoth_107 (lv_at hl 2 rfl) ?_
            refine lv_iload hx hb dX0_pointOfBoth_109 (lv_at hl 0 rfl) ?_
            refine g_callV (b) (C := RX1) (T := TX1) (N := 4) (ci := 0) (As := [.int (nI (A0 >>> nn)), .int (nI (m0))]) (rest := [.int (nI (m0 <<< nn))]) (c_X1_times l hI hbn hw (X := A0 >>> nn) (Y := m0) ht hnn (by omega) (by omega)) (cwV 2 hts gX0_pointOfBoth_X1_times rfl rfl rfl (by decide +kernel) ⟨Nat.le_of_ble_eq_true rfl, Nat.le_of_ble_eq_true rfl⟩) hx hb hml hown hts hK hP  (by omega) hw.1 rfl rfl hl.1 rfl (Nat.le_of_ble_eq_true rfl) (Nat.zero_le _) (Nat.zero_le _) dX0_pointOfBoth_111 ?_
            refine lv_aload_n hx hb dX0_pointOfBoth_114 rfl (lv_at hl 5 rfl) ?_
            refine lv_iload_n hx hb dX0_pointOfBoth_115 rfl (lv_at hl 6 rfl) ?_
            refine g_callS (As := [.ref (ad (b)), .int (nI (A0))]) (rest := [.int (nI (tm nn c0 (A0 >>> nn) m0)), .int (nI (m0 <<< nn))]) (c_X0_lowPart l hI hbn hw (P := A0)) (va_cwS 2 hts gX0_pointOfBoth_X0_lowPart rfl rfl rfl (by decide +kernel) ⟨Nat.le_of_ble_eq_true rfl, Nat.le_of_ble_eq_true rfl⟩) hx hb hml hown hts hK hP  rfl hl.1 rfl (Nat.le_of_ble_eq_true rfl) (Nat.zero_le _) (Nat.zero_le _) dX0_pointOfBoth_116 ?_
            refine n_ixor hx hb dX0_pointOfBoth_119 ?_
            refine n_ior hx hb dX0_pointOfBoth_120 ?_
            exact g_iret hx hb hrt hlocks dX0_pointOfBoth_121 (by rw [show mtS nn c0 A0 B0 = _ from by unfold mtS; rw [if_neg (Nat.not_le.mpr h_13), if_neg (fun z => z.elim h_29 h_39), hm0]]; rfl)
          · refine lv_bipush (v := (-9)) hx hb dX0_pointOfBoth_94 (by decide) ?_
            refine n_goto 121 hx hb dX0_pointOfBoth_96 (by decide) ?_
            exact g_iret hx hb hrt hlocks dX0_pointOfBoth_121 (by rw [show mtS nn c0 A0 B0 = none from by unfold mtS; rw [if_neg (Nat.not_le.mpr h_13), if_neg (fun z => z.elim h_29 h_39), h_91]; rfl]; rfl)
      · refine lv_iload_n hx hb dX0_pointOfBoth_42 rfl (lv_at hl 2 rfl) ?_
        refine lv_iload hx hb dX0_pointOfBoth_43 (lv_at hl 0 rfl) ?_
        refine n_iadd hx hb dX0_pointOfBoth_45 ?_
        exact g_iret hx hb hrt hlocks dX0_pointOfBoth_46 (by rw [show mtS nn c0 A0 B0 = some _ from by unfold mtS; rw [if_neg (Nat.not_le.mpr h_13), if_pos (Or.inr h_39)]]; rfl)
  · refine lv_iload hx hb dX0_pointOfBoth_16 (lv_at hl 0 rfl) ?_
    exact g_iret hx hb hrt hlocks dX0_pointOfBoth_18 (by rw [show mtS nn c0 A0 B0 = some _ from by unfold mtS; rw [if_pos h_13]]; rfl)
set_option maxHeartbeats 4000000 in
set_option maxRecDepth 100000 in
theorem c_X0_countBadPairs (l : Launch) {D : va_G} {tys : List (ClassId × FieldType)} {ad : Nat → Nat} {n : Nat} {E : Nat → va_E} {cI : ClassId} {t0 b nn : Nat} {c0 tt : Nat → Nat} (hI : tys[t0]? = some (cI, .int)) (hbn : b + 2 < n) (hw : isW cI ad E b nn c0 tt) (ht : tOK nn c0 tt) (hnn : nn ≤ 4) (hcb : CB nn c0) : Met l yX0_countBadPairs wsX0_countBadPairs ({ frames := 3, cells := 0, slots := 0, locals := 65 } : Room) (va_Pc [.ref (ad (b))] (PB D tys n ad (E))) (k2_QcV (.int (nI (cbS nn c0)))) 0 0 (fun _ => False) := by
  have p4 := pow4 hnn
  have p0 : 0 < 2 ^ nn := Nat.pow_pos (by decide)
  have p16 := sq4 p4
  refine g_pure (cc := cX0_countBadPairs) (maxL := 3) (ret := (some .int)) (by decide) rfl (Nat.le_of_ble_eq_true rfl) ?_
  intro p e s m args below meth c hx hb hrt hts hown hlocks hml hP hK ls hl
  show W p l e ({ frames := 3, cells := 0, slots := 0, locals := 65 } : Room) s m args below meth c s.heap [] 0 0 _ _
  have hl : lv_has ls 3 [(0, .ref (ad (b)))] := hl
  refine n_iconst 0 hx hb dX0_countBadPairs_0 ?_
  refine lv_istore_n (lv' := [(1, .int (nI (0))), (0, .ref (ad (b)))]) hx hb dX0_countBadPairs_1 rfl hl (by decide) rfl (fun ls hl => ?_)
  refine n_iconst 1 hx hb dX0_countBadPairs_2 ?_
  refine lv_istore_n (lv' := [(2, .int (nI (1))), (1, .int (nI (0))), (0, .ref (ad (b)))]) hx hb dX0_countBadPairs_3 rfl hl (by decide) rfl (fun ls hl => ?_)
  have L_4 : ∀ (r : Nat) (acc : Nat) (d : Nat), (1 ≤ d) → (d ≤ 2 ^ nn) → (2 ^ nn < d + r) → (acc = cnt (cbF nn c0) d) → ∀ (ls : Array Slot), lv_has ls 3 [(0, .ref (ad (b))), (1, .int (nI (acc))), (2, .int (nI (d)))] → W p l e ({ frames := 3, cells := 0, slots := 0, locals := 65 } : Room) s m args below meth c s.heap [] 0 0 (MQ below (k2_QcV (.int (nI (cbS nn c0)))) args s 0 0 (fun _ => False)) (F0 m 4 ls []) := by
    intro r
    induction r with
    | zero => intro acc d hd1 hd hr ha; intros; exact absurd hr (by omega)
    | succ r ih =>
      intro acc d hd1 hd hr ha ls hl
      have ih_4 := ih
      refine lv_iload_n hx hb dX0_countBadPairs_4 rfl (lv_at hl 2 rfl) ?_
      refine lv_aload_n hx hb dX0_countBadPairs_5 rfl (lv_at hl 0 rfl) ?_
      refine g_callV (b) (C := RX1) (T := TX1) (N := 4) (ci := 0) (As := []) (rest := [.int (nI (d))]) (c_X1_size l hI hbn hw) (cwV 0 hts gX0_countBadPairs_X1_size rfl rfl rfl (by decide +kernel) ⟨Nat.le_of_ble_eq_true rfl, Nat.le_of_ble_eq_true rfl⟩) hx hb hml hown hts hK hP  (by omega) hw.1 rfl rfl hl.1 rfl (Nat.le_of_ble_eq_true rfl) (Nat.zero_le _) (Nat.zero_le _) dX0_countBadPairs_6 ?_
      refine n_ge (tgt := 31) hx hb dX0_countBadPairs_9 (by decide) (by omega) (by omega) (fun h_9 => ?_) (fun h_9 => ?_)
      · refine lv_iload_n hx hb dX0_countBadPairs_31 rfl (lv_at hl 1 rfl) ?_
        refine lv_aload_n hx hb dX0_countBadPairs_32 rfl (lv_at hl 0 rfl) ?_
        refine g_callV (b) (C := RX1) (T := TX1) (N := 4) (ci := 0) (As := []) (rest := [.int (nI (acc))]) (c_X1_size l hI hbn hw) (cwV 0 hts gX0_countBadPairs_X1_size rfl rfl rfl (by decide +kernel) ⟨Nat.le_of_ble_eq_true rfl, Nat.le_of_ble_eq_true rfl⟩) hx hb hml hown hts hK hP  (by omega) hw.1 rfl rfl hl.1 rfl (Nat.le_of_ble_eq_true rfl) (Nat.zero_le _) (Nat.zero_le _) dX0_countBadPairs_33 ?_
        refine n_iconst 1 hx hb dX0_countBadPairs_36 ?_
        refine n_ishr hx hb dX0_countBadPairs_37 (by omega) (by decide) ?_
        refine n_imul hx hb dX0_countBadPairs_38 ?_
        refine lv_aload_n hx hb dX0_countBadPairs_39 rfl (lv_at hl 0 rfl) ?_
        refine g_callS (As := [.ref (ad (b))]) (rest := [.int (nI (acc * ((2 ^ nn) >>> 1)))]) (c_X0_insideOf l hI hbn hw) (va_cwS 1 hts gX0_countBadPairs_X0_insideOf rfl rfl rfl (by decide +kernel) ⟨Nat.le_of_ble_eq_true rfl, Nat.le_of_ble_eq_true rfl⟩) hx hb hml hown hts hK hP  rfl hl.1 rfl (Nat.le_of_ble_eq_true rfl) (Nat.zero_le _) (Nat.zero_le _) dX0_countBadPairs_40 ?_
        refine n_imul hx hb dX0_countBadPairs_43 ?_
        exact g_iret hx hb hrt hlocks dX0_countBadPairs_44 (by rw [ha, show d = 2 ^ nn by omega]; rfl)
      · refine lv_aload_n hx hb dX0_countBadPairs_12 rfl (lv_at hl 0 rfl) ?_
        refine lv_iload_n hx hb dX0_countBadPairs_13 rfl (lv_at hl 2 rfl) ?_
        refine g_callV (b) (C := RX1) (T := TX1) (N := 4) (ci := 0) (As := [.int (nI (d))]) (rest := []) (c_X1_leastPartner l hI hbn hw (X := d) ht hnn hcb (by omega)) (cwV 1 hts gX0_countBadPairs_X1_leastPartner rfl rfl rfl (by decide +kernel) ⟨Nat.le_of_ble_eq_true rfl, Nat.le_of_ble_eq_true rfl⟩) hx hb hml hown hts hK hP  (by omega) hw.1 rfl rfl hl.1 rfl (Nat.le_of_ble_eq_true rfl) (Nat.zero_le _) (Nat.zero_le _) dX0_countBadPairs_14 ?_
        refine lv_bipush (v := (-9)) hx hb dX0_countBadPairs_17 (by decide) ?_
        refine n_ceq_o (tgt := 25) hx hb dX0_countBadPairs_19 (by decide) (fun k hk => by have := (fl_some hk).2.1; omega) (fun h_19 => ?_) (fun h_19 => ?_)
        · refine n_iinc 2 1 (lv' := [(2, .int (nI (d + 1))), (0, .ref (ad (b))), (1, .int (nI (acc)))]) hx hb dX0_countBadPairs_25 hl rfl (by decide) rfl (fun ls hl => ?_)
          refine n_goto 4 hx hb dX0_countBadPairs_28 (by decide) ?_
          exact ih_4 (acc) (d + 1) (by omega) (by omega) (by omega) (by rw [ha, cnt_n (by unfold cbF; rw [sF h_19, Bool.and_false])]) _ (lv_sub hl [1, 2, 0] rfl)
        · refine n_iinc 1 1 (lv' := [(1, .int (nI (acc + 1))), (0, .ref (ad (b))), (2, .int (nI (d)))]) hx hb dX0_countBadPairs_22 hl rfl (by decide) rfl (fun ls hl => ?_)
          refine n_iinc 2 1 (lv' := [(2, .int (nI (d + 1))), (1, .int (nI (acc + 1))), (0, .ref (ad (b)))]) hx hb dX0_countBadPairs_25 hl rfl (by decide) rfl (fun ls hl => ?_)
          refine n_goto 4 hx hb dX0_countBadPairs_28 (by decide) ?_
          exact ih_4 (acc + 1) (d + 1) (by omega) (by omega) (by omega) (by rw [ha, cnt_y (by unfold cbF; rw [decide_eq_true hd1, sT h_19]; rfl)]) _ (lv_sub hl [2, 1, 0] rfl)
  exact L_4 (2 ^ nn + 1) (0) (1) (Nat.le_refl _) (by omega) (by omega) rfl _ (lv_sub hl [2, 1, 0] rfl)
end
section
/-! rows of four numbers: what a map gives; cubes turned -/
def im (f : Nat → Nat) (x : Nat) : Nat := xs (fun i => if x.testBit i then f i else 0) 4
def fitB (f : Nat → Nat) (n : Nat) : Bool := al (fun x => decide (im f x < 2 ^ n) && al (fun j => !(im f j == im f x)) x) (2 ^ n)
def src (f : Nat → Nat) (n v : Nat) : Nat := (fl (fun x => im f x == v) 0 (2 ^ n)).getD 0
def cbt (c : Nat → Nat) (i j k : Nat) : Nat := (c (4 * i + j) >>> k) &&& 1
def tbS (c : Nat → Nat) (t i j k : Nat) : Nat := if t = 1 then cbt c i k j else if t = 2 then cbt c j i k else if t = 3 then cbt c j k i else if t = 4 then cbt c k i j else if t = 5 then cbt c k j i else cbt c i j k
def tcS (n : Nat) (c : Nat → Nat) (t i j : Nat) : Nat := os (fun k => tbS c t i j k <<< k) n
theorem im_y {f : Nat → Nat} {x i : Nat} (h : x.testBit i = true) : xs (fun i => if x.testBit i then f i else 0) (i + 1) = xs (fun i => if x.testBit i then f i else 0) i ^^^ f i := xs_at (if_pos h)
theorem im_n {f : Nat → Nat} {x i : Nat} (h : ¬ x.testBit i = true) : xs (fun i => if x.testBit i then f i else 0) (i + 1) = xs (fun i => if x.testBit i then f i else 0) i := by
  have e : xs (fun i => if x.testBit i then f i else 0) (i + 1) = xs (fun i => if x.testBit i then f i else 0) i ^^^ 0 := xs_at (if_neg h)
  rw [e, Nat.xor_zero]
theorem im16 {f : Nat → Nat} (hf : ∀ i, i < 4 → f i < 16) (x : Nat) : im f x < 16 := xs_lt (m := 4) (fun i hi => by
  show (if _ then _ else _) < _
  split
  · exact hf i hi
  · decide)
theorem shl1_bit (a b : Nat) : (1 <<< a).testBit b = decide (a = b) := by rw [shl1, Nat.testBit_two_pow]
theorem fit_seen {f : Nat → Nat} {n x : Nat} (h4 : 2 ^ n ≤ 16) (hno : ∀ j, j < x → (decide (im f j < 2 ^ n) && al (fun k => !(im f k == im f j)) j) = true) : os (fun x => 1 <<< im f x) x < 2 ^ 16 := os_lt (fun i hi => by
  have := hno i hi
  rw [Bool.and_eq_true, decide_eq_true_eq] at this
  exact shl1_lt (by omega))
theorem fit_hit {f : Nat → Nat} {x : Nat} (h : ((os (fun x => 1 <<< im f x) x) >>> im f x) &&& 1 = 1) : al (fun j => !(im f j == im f x)) x = false := by
  rw [bit1', os_bit] at h
  obtain ⟨i, h1, h2⟩ := h
  rw [shl1_bit, decide_eq_true_eq] at h2
  exact al_no h1 (by rw [bT h2]; rfl)
theorem fit_mis {f : Nat → Nat} {x : Nat} (h : ¬ ((os (fun x => 1 <<< im f x) x) >>> im f x) &&& 1 = 1) : al (fun j => !(im f j == im f x)) x = true := by
  refine al_yes (fun i hi => ?_)
  rw [bF (fun e => h ?_)]
  · rfl
  · rw [bit1', os_bit]
    exact ⟨i, hi, by rw [shl1_bit]; exact decide_eq_true e⟩
theorem cbt_lt (c : Nat → Nat) (i j k : Nat) : cbt c i j k < 2 := Nat.lt_succ_of_le Nat.and_le_right
theorem tbS_lt (c : Nat → Nat) (t i j k : Nat) : tbS c t i j k < 2 := by
  unfold tbS
  repeat' split
  all_goals exact cbt_lt _ _ _ _
section RWC
variable {p : Program} {l : Launch} {e : Env} {R : Room} {s : State} {m : MethodId} {args : Array Value} {below : List Frame} {meth : Method} {c : Code} {H : Heap} {locs : List Loc} {cells slots : Nat} {Q : State → Prop}
variable {cc : ByteArray} {pc : Nat} {ls : Array Slot} {rest : List Value} {D : va_G} {tys : List (ClassId × FieldType)} {n : Nat} {ad : Nat → Nat} {E : Nat → va_E}
/-- a place of an array of int arrays -/
theorem g_aaldA (i j : Nat) {t0 : Nat} {cA : ClassId} {ty : FieldType} {len a : Nat} {f : Nat → Option Nat} (hx : p.tables.exec = Jvm.exec) (hb : c.code = cc) (hK : KN D tys s) (hP : va_P D vwCl (pic n ad E) H) (hi : i < n) (hE : E i = .inl (cA, len, .inr (.inr (.inr (.inr f))))) (ht : tys[t0]? = some (cA, .array ty)) (hj : j < len) (hlen : len < 2 ^ 31) (hf : f j = some a) (hdg : decode cc pc = .ok (.aaload, 1))
    (kk : W p l e R s m args below meth c H locs cells slots Q (F0 m (pc + 1) ls (.ref a :: rest))) : W p l e R s m args below meth c H locs cells slots Q (F0 m pc ls (.int (nI j) :: .ref (ad i) :: rest)) := by
  have hin := vp_in_nI hj hlen
  have hcl := k_toNat (Nat.lt_trans hj hlen)
  refine W.aald (v := .ref a) hx hb (hP i _ (pic_get hi hE)) ((hK.1.2 t0 _ ht).1 len (fun j => va_rf (f j))) rfl (fun q => by cases q) (by show ¬ (nI j < 0 ∨ (arrV _ _ _).slots.size ≤ _); rw [arrV_size]; exact hin) (by show (arrV _ _ _).slots[_]? = _; rw [hcl, arrV_read _ _ hj, hf]; rfl) rfl rfl hdg kk
end RWC

set_option maxHeartbeats 4000000 in
set_option maxRecDepth 100000 in
theorem c_X2_isSomeN (l : Launch) {D : va_G} {tys : List (ClassId × FieldType)} {ad : Nat → Nat} {n : Nat} {E : Nat → va_E} {cI : ClassId} {t0 : Nat} (hI : tys[t0]? = some (cI, .int)) {x : Int32} : Met l yX2_isSomeN wsX2_isSomeN ({ frames := 0, cells := 0, slots := 0, locals := 0 } : Room) (va_Pc [.int (x)] (PB D tys n ad (E))) (k2_QcV (.int (bI (rB 1 4 x)))) 0 0 (fun _ => False) := by
  refine g_pure (cc := cX2_isSomeN) (maxL := 1) (ret := (some .boolean)) (by decide) rfl (Nat.le_of_ble_eq_true rfl) ?_
  intro p e s m args below meth c hx hb hrt hts hown hlocks hml hP hK ls hl
  show W p l e ({ frames := 0, cells := 0, slots := 0, locals := 0 } : Room) s m args below meth c s.heap [] 0 0 _ _
  have hl : lv_has ls 1 [(0, .int (x))] := hl
  refine lv_iload_n hx hb dX2_isSomeN_0 rfl (lv_at hl 0 rfl) ?_
  refine n_iconst 1 hx hb dX2_isSomeN_1 ?_
  refine lv_icmp_lt (tgt := 14) hx hb dX2_isSomeN_2 (by decide) (fun h_2 => ?_) (fun h_2 => ?_)
  · refine n_iconst 0 hx hb dX2_isSomeN_14 ?_
    exact g_zret (false) hx hb hrt hlocks dX2_isSomeN_15 rfl (congrArg (fun b => Value.int (bI b)) (decide_eq_false (fun z => k2_nlt z.1 h_2)))
  · refine lv_iload_n hx hb dX2_isSomeN_5 rfl (lv_at hl 0 rfl) ?_
    refine n_iconst 4 hx hb dX2_isSomeN_6 ?_
    refine lv_icmp_gt (tgt := 14) hx hb dX2_isSomeN_7 (by decide) (fun h_7 => ?_) (fun h_7 => ?_)
    · refine n_iconst 0 hx hb dX2_isSomeN_14 ?_
      exact g_zret (false) hx hb hrt hlocks dX2_isSomeN_15 rfl (congrArg (fun b => Value.int (bI b)) (decide_eq_false (fun z => k2_nlt z.2 h_7)))
    · refine n_iconst 1 hx hb dX2_isSomeN_10 ?_
      refine n_goto 15 hx hb dX2_isSomeN_11 (by decide) ?_
      exact g_zret (true) hx hb hrt hlocks dX2_isSomeN_15 rfl (congrArg (fun b => Value.int (bI b)) (decide_eq_true ⟨k2_le h_2, k2_le h_7⟩))
set_option maxHeartbeats 4000000 in
set_option maxRecDepth 100000 in
theorem c_X2_isSomeWay (l : Launch) {D : va_G} {tys : List (ClassId × FieldType)} {ad : Nat → Nat} {n : Nat} {E : Nat → va_E} {cI : ClassId} {t0 : Nat} (hI : tys[t0]? = some (cI, .int)) {x : Int32} : Met l yX2_isSomeWay wsX2_isSomeWay ({ frames := 0, cells := 0, slots := 0, locals := 0 } : Room) (va_Pc [.int (x)] (PB D tys n ad (E))) (k2_QcV (.int (bI (rB 0 3 x)))) 0 0 (fun _ => False) := by
  refine g_pure (cc := cX2_isSomeWay) (maxL := 1) (ret := (some .boolean)) (by decide) rfl (Nat.le_of_ble_eq_true rfl) ?_
  intro p e s m args below meth c hx hb hrt hts hown hlocks hml hP hK ls hl
  show W p l e ({ frames := 0, cells := 0, slots := 0, locals := 0 } : Room) s m args below meth c s.heap [] 0 0 _ _
  have hl : lv_has ls 1 [(0, .int (x))] := hl
  refine lv_iload_n hx hb dX2_isSomeWay_0 rfl (lv_at hl 0 rfl) ?_
  refine lv_if_lt (tgt := 13) hx hb dX2_isSomeWay_1 (by decide) (fun h_1 => ?_) (fun h_1 => ?_)
  · refine n_iconst 0 hx hb dX2_isSomeWay_13 ?_
    exact g_zret (false) hx hb hrt hlocks dX2_isSomeWay_14 rfl (congrArg (fun b => Value.int (bI b)) (decide_eq_false (fun z => k2_nlt z.1 h_1)))
  · refine lv_iload_n hx hb dX2_isSomeWay_4 rfl (lv_at hl 0 rfl) ?_
    refine n_iconst 3 hx hb dX2_isSomeWay_5 ?_
    refine lv_icmp_gt (tgt := 13) hx hb dX2_isSomeWay_6 (by decide) (fun h_6 => ?_) (fun h_6 => ?_)
    · refine n_iconst 0 hx hb dX2_isSomeWay_13 ?_
      exact g_zret (false) hx hb hrt hlocks dX2_isSomeWay_14 rfl (congrArg (fun b => Value.int (bI b)) (decide_eq_false (fun z => k2_nlt z.2 h_6)))
    · refine n_iconst 1 hx hb dX2_isSomeWay_9 ?_
      refine n_goto 14 hx hb dX2_isSomeWay_10 (by decide) ?_
      exact g_zret (true) hx hb hrt hlocks dX2_isSomeWay_14 rfl (congrArg (fun b => Value.int (bI b)) (decide_eq_true ⟨k2_le h_1, k2_le h_6⟩))
set_option maxHeartbeats 4000000 in
set_option maxRecDepth 100000 in
theorem c_X2_isMapNumber (l : Launch) {D : va_G} {tys : List (ClassId × FieldType)} {ad : Nat → Nat} {n : Nat} {E : Nat → va_E} {cI : ClassId} {t0 : Nat} (hI : tys[t0]? = some (cI, .int)) {x : Int32} : Met l yX2_isMapNumber wsX2_isMapNumber ({ frames := 0, cells := 0, slots := 0, locals := 0 } : Room) (va_Pc [.int (x)] (PB D tys n ad (E))) (k2_QcV (.int (bI (rB 0 15 x)))) 0 0 (fun _ => False) := by
  refine g_pure (cc := cX2_isMapNumber) (maxL := 1) (ret := (some .boolean)) (by decide) rfl (Nat.le_of_ble_eq_true rfl) ?_
  intro p e s m args below meth c hx hb hrt hts hown hlocks hml hP hK ls hl
  show W p l e ({ frames := 0, cells := 0, slots := 0, locals := 0 } : Room) s m args below meth c s.heap [] 0 0 _ _
  have hl : lv_has ls 1 [(0, .int (x))] := hl
  refine lv_iload_n hx hb dX2_isMapNumber_0 rfl (lv_at hl 0 rfl) ?_
  refine lv_if_lt (tgt := 14) hx hb dX2_isMapNumber_1 (by decide) (fun h_1 => ?_) (fun h_1 => ?_)
  · refine n_iconst 0 hx hb dX2_isMapNumber_14 ?_
    exact g_zret (false) hx hb hrt hlocks dX2_isMapNumber_15 rfl (by rw [show rB 0 15 x = _ from rB_0 (N := 16) (by decide) (by decide)]; exact congrArg (fun b => Value.int (bI b)) (decide_eq_false (fun z => z.1 h_1)))
  · refine lv_iload_n hx hb dX2_isMapNumber_4 rfl (lv_at hl 0 rfl) ?_
    refine lv_bipush (v := nI 16) hx hb dX2_isMapNumber_5 (by decide) ?_
    refine lv_icmp_ge (tgt := 14) hx hb dX2_isMapNumber_7 (by decide) (fun h_7 => ?_) (fun h_7 => ?_)
    · refine n_iconst 0 hx hb dX2_isMapNumber_14 ?_
      exact g_zret (false) hx hb hrt hlocks dX2_isMapNumber_15 rfl (by rw [show rB 0 15 x = _ from rB_0 (N := 16) (by decide) (by decide)]; exact congrArg (fun b => Value.int (bI b)) (decide_eq_false (fun z => z.2 h_7)))
    · refine n_iconst 1 hx hb dX2_isMapNumber_10 ?_
      refine n_goto 15 hx hb dX2_isMapNumber_11 (by decide) ?_
      exact g_zret (true) hx hb hrt hlocks dX2_isMapNumber_15 rfl (by rw [show rB 0 15 x = _ from rB_0 (N := 16) (by decide) (by decide)]; exact congrArg (fun b => Value.int (bI b)) (decide_eq_true ⟨h_1, h_7⟩))
set_option maxHeartbeats 4000000 in
set_option maxRecDepth 100000 in
theorem c_X2_oneIf (l : Launch) {D : va_G} {tys : List (ClassId × FieldType)} {ad : Nat → Nat} {n : Nat} {E : Nat → va_E} {cI : ClassId} {t0 : Nat} (hI : tys[t0]? = some (cI, .int)) {B : Bool} : Met l yX2_oneIf wsX2_oneIf ({ frames := 0, cells := 0, slots := 0, locals := 0 } : Room) (va_Pc [.int (bI (B))] (PB D tys n ad (E))) (k2_QcV (.int (bI B))) 0 0 (fun _ => False) := by
  refine g_pure (cc := cX2_oneIf) (maxL := 1) (ret := (some .int)) (by decide) rfl (Nat.le_of_ble_eq_true rfl) ?_
  intro p e s m args below meth c hx hb hrt hts hown hlocks hml hP hK ls hl
  show W p l e ({ frames := 0, cells := 0, slots := 0, locals := 0 } : Room) s m args below meth c s.heap [] 0 0 _ _
  have hl : lv_has ls 1 [(0, .int (bI (B)))] := hl
  refine lv_iload_n hx hb dX2_oneIf_0 rfl (lv_at hl 0 rfl) ?_
  refine n_ifeq_b (tgt := 8) hx hb dX2_oneIf_1 (by decide) (fun h_1 => ?_) (fun h_1 => ?_)
  · refine n_iconst 0 hx hb dX2_oneIf_8 ?_
    exact g_iret hx hb hrt hlocks dX2_oneIf_9 (by rw [h_1]; rfl)
  · refine n_iconst 1 hx hb dX2_oneIf_4 ?_
    refine n_goto 9 hx hb dX2_oneIf_5 (by decide) ?_
    exact g_iret hx hb hrt hlocks dX2_oneIf_9 (by rw [h_1]; rfl)
set_option maxHeartbeats 4000000 in
set_option maxRecDepth 100000 in
theorem c_X2_sumOf (l : Launch) {D : va_G} {tys : List (ClassId × FieldType)} {ad : Nat → Nat} {n : Nat} {E : Nat → va_E} {cI : ClassId} {t0 : Nat} (hI : tys[t0]? = some (cI, .int)) {rI : Nat} {f : Nat → Nat} (hr0 : rI < n) (hrow : E rI = .inl (cI, 4, .inl (nF f))) {X : Nat} (hX : X < 2 ^ 31) : Met l yX2_sumOf wsX2_sumOf ({ frames := 0, cells := 0, slots := 0, locals := 0 } : Room) (va_Pc [.ref (ad (rI)), .int (nI (X))] (PB D tys n ad (E))) (k2_QcV (.int (nI (im f X)))) 0 0 (fun _ => False) := by
  refine g_pure (cc := cX2_sumOf) (maxL := 4) (ret := (some .int)) (by decide) rfl (Nat.le_of_ble_eq_true rfl) ?_
  intro p e s m args below meth c hx hb hrt hts hown hlocks hml hP hK ls hl
  show W p l e ({ frames := 0, cells := 0, slots := 0, locals := 0 } : Room) s m args below meth c s.heap [] 0 0 _ _
  have hl : lv_has ls 4 [(0, .ref (ad (rI))), (1, .int (nI (X)))] := hl
  refine n_iconst 0 hx hb dX2_sumOf_0 ?_
  refine lv_istore_n (lv' := [(2, .int (nI (0))), (0, .ref (ad (rI))), (1, .int (nI (X)))]) hx hb dX2_sumOf_1 rfl hl (by decide) rfl (fun ls hl => ?_)
  refine n_iconst 0 hx hb dX2_sumOf_2 ?_
  refine lv_istore_n (lv' := [(3, .int (nI (0))), (2, .int (nI (0))), (0, .ref (ad (rI))), (1, .int (nI (X)))]) hx hb dX2_sumOf_3 rfl hl (by decide) rfl (fun ls hl => ?_)
  have L_4 : ∀ (r : Nat) (acc : Nat) (i : Nat), (i ≤ 4) → (4 < i + r) → (acc = xs (fun i => if X.testBit i then f i else 0) i) → ∀ (ls : Array Slot), lv_has ls 4 [(0, .ref (ad (rI))), (1, .int (nI (X))), (2, .int (nI (acc))), (3, .int (nI (i)))] → W p l e ({ frames := 0, cells := 0, slots := 0, locals := 0 } : Room) s m args below meth c s.heap [] 0 0 (MQ below (k2_QcV (.int (nI (im f X)))) args s 0 0 (fun _ => False)) (F0 m 4 ls []) := by
    intro r
    induction r with
    | zero => intro acc i hi hr ha; intros; exact absurd hr (by omega)
    | succ r ih =>
      intro acc i hi hr ha ls hl
      have ih_4 := ih
      refine lv_iload_n hx hb dX2_sumOf_4 rfl (lv_at hl 3 rfl) ?_
      refine lv_aload_n hx hb dX2_sumOf_5 rfl (lv_at hl 0 rfl) ?_
      refine g_alen (rI) hx hb hK hP hr0 hrow hI dX2_sumOf_6 ?_
      refine n_ge (tgt := 31) hx hb dX2_sumOf_7 (by decide) (by omega) (by omega) (fun h_7 => ?_) (fun h_7 => ?_)
      · refine lv_iload_n hx hb dX2_sumOf_31 rfl (lv_at hl 2 rfl) ?_
        exact g_iret hx hb hrt hlocks dX2_sumOf_32 (by rw [ha, show i = 4 by omega]; rfl)
      · refine lv_iload_n hx hb dX2_sumOf_10 rfl (lv_at hl 1 rfl) ?_
        refine lv_iload_n hx hb dX2_sumOf_11 rfl (lv_at hl 3 rfl) ?_
        refine n_ishr hx hb dX2_sumOf_12 hX (by omega) ?_
        refine n_iconst 1 hx hb dX2_sumOf_13 ?_
        refine n_iand hx hb dX2_sumOf_14 ?_
        refine n_iconst 1 hx hb dX2_sumOf_15 ?_
        refine n_cne (tgt := 25) hx hb dX2_sumOf_16 (by decide) (and1_lt _) (by decide) (fun h_16 => ?_) (fun h_16 => ?_)
        · refine n_iinc 3 1 (lv' := [(3, .int (nI (i + 1))), (0, .ref (ad (rI))), (1, .int (nI (X))), (2, .int (nI (acc)))]) hx hb dX2_sumOf_25 hl rfl (by decide) rfl (fun ls hl => ?_)
          refine n_goto 4 hx hb dX2_sumOf_28 (by decide) ?_
          exact ih_4 (acc) (i + 1) (by omega) (by omega) (by rw [ha, im_n (fun z => h_16 ((bit1' X i).mpr z))]) _ (lv_sub hl [1, 2, 3, 0] rfl)
        · refine lv_iload_n hx hb dX2_sumOf_19 rfl (lv_at hl 2 rfl) ?_
          refine lv_aload_n hx hb dX2_sumOf_20 rfl (lv_at hl 0 rfl) ?_
          refine lv_iload_n hx hb dX2_sumOf_21 rfl (lv_at hl 3 rfl) ?_
          refine g_iald (rI) (i) (t0 := _) hx hb hK hP hr0 hrow hI (by omega) (by decide) dX2_sumOf_22 ?_
          refine n_ixor hx hb dX2_sumOf_23 ?_
          refine lv_istore_n (lv' := [(2, .int (nI (acc ^^^ (f (i))))), (0, .ref (ad (rI))), (1, .int (nI (X))), (3, .int (nI (i)))]) hx hb dX2_sumOf_24 rfl hl (by decide) rfl (fun ls hl => ?_)
          refine n_iinc 3 1 (lv' := [(3, .int (nI (i + 1))), (2, .int (nI (acc ^^^ (f (i))))), (0, .ref (ad (rI))), (1, .int (nI (X)))]) hx hb dX2_sumOf_25 hl rfl (by decide) rfl (fun ls hl => ?_)
          refine n_goto 4 hx hb dX2_sumOf_28 (by decide) ?_
          exact ih_4 (acc ^^^ (f (i))) (i + 1) (by omega) (by omega) (by rw [ha, im_y ((bit1' X i).mp h_16)]) _ (lv_sub hl [2, 3, 1, 0] rfl)
  exact L_4 5 (0) (0) (Nat.zero_le _) (by omega) rfl _ (lv_sub hl [2, 3, 1, 0] rfl)
set_option maxHeartbeats 4000000 in
set_option maxRecDepth 100000 in
theorem c_X2_isFit (l : Launch) {D : va_G} {tys : List (ClassId × FieldType)} {ad : Nat → Nat} {n : Nat} {E : Nat → va_E} {cI : ClassId} {t0 : Nat} (hI : tys[t0]? = some (cI, .int)) {rI : Nat} {f : Nat → Nat} (hr0 : rI < n) (hrow : E rI = .inl (cI, 4, .inl (nF f))) {nn : Nat} (hnn : nn ≤ 4) (hf : ∀ i, i < 4 → f i < 16) : Met l yX2_isFit wsX2_isFit ({ frames := 1, cells := 0, slots := 0, locals := 23 } : Room) (va_Pc [.ref (ad (rI)), .int (nI (nn))] (PB D tys n ad (E))) (k2_QcV (.int (bI (fitB f nn)))) 0 0 (fun _ => False) := by
  have p4 := pow4 hnn
  have p0 : 0 < 2 ^ nn := Nat.pow_pos (by decide)
  refine g_pure (cc := cX2_isFit) (maxL := 6) (ret := (some .boolean)) (by decide) rfl (Nat.le_of_ble_eq_true rfl) ?_
  intro p e s m args below meth c hx hb hrt hts hown hlocks hml hP hK ls hl
  show W p l e ({ frames := 1, cells := 0, slots := 0, locals := 23 } : Room) s m args below meth c s.heap [] 0 0 _ _
  have hl : lv_has ls 6 [(0, .ref (ad (rI))), (1, .int (nI (nn)))] := hl
  refine n_iconst 1 hx hb dX2_isFit_0 ?_
  refine lv_iload_n hx hb dX2_isFit_1 rfl (lv_at hl 1 rfl) ?_
  refine n_ishl hx hb dX2_isFit_2 (by omega) ?_
  refine n_eq (show nI (1 <<< nn) = nI (2 ^ nn) from by rw [shl1]) ?_
  refine lv_istore_n (lv' := [(2, .int (nI (2 ^ nn))), (0, .ref (ad (rI))), (1, .int (nI (nn)))]) hx hb dX2_isFit_3 rfl hl (by decide) rfl (fun ls hl => ?_)
  refine n_iconst 0 hx hb dX2_isFit_4 ?_
  refine lv_istore_n (lv' := [(3, .int (nI (0))), (2, .int (nI (2 ^ nn))), (0, .ref (ad (rI))), (1, .int (nI (nn)))]) hx hb dX2_isFit_5 rfl hl (by decide) rfl (fun ls hl => ?_)
  refine n_iconst 0 hx hb dX2_isFit_6 ?_
  refine lv_istore (lv' := [(4, .int (nI (0))), (3, .int (nI (0))), (2, .int (nI (2 ^ nn))), (0, .ref (ad (rI))), (1, .int (nI (nn)))]) hx hb dX2_isFit_7 hl (by decide) rfl (fun ls hl => ?_)
  have L_9 : ∀ (r : Nat) (seen : Nat) (x : Nat), (x ≤ 2 ^ nn) → (2 ^ nn < x + r) → (seen = os (fun x => 1 <<< im f x) x) → (∀ j, j < x → (decide (im f j < 2 ^ nn) && al (fun k => !(im f k == im f j)) j) = true) → ∀ (ls : Array Slot), lv_has ls 6 [(0, .ref (ad (rI))), (1, .int (nI (nn))), (2, .int (nI (2 ^ nn))), (3, .int (nI (seen))), (4, .int (nI (x)))] → W p l e ({ frames := 1, cells := 0, slots := 0, locals := 23 } : Room) s m args below meth c s.heap [] 0 0 (MQ below (k2_QcV (.int (bI (fitB f nn)))) args s 0 0 (fun _ => False)) (F0 m 9 ls []) := by
    intro r
    induction r with
    | zero => intro seen x hx1 hr ha hno; intros; exact absurd hr (by omega)
    | succ r ih =>
      intro seen x hx1 hr ha hno ls hl
      have ih_9 := ih
      have hs := fit_seen p4 hno
      rw [ha] at hl
      refine lv_iload hx hb dX2_isFit_9 (lv_at hl 4 rfl) ?_
      refine lv_iload_n hx hb dX2_isFit_11 rfl (lv_at hl 2 rfl) ?_
      refine n_ge (tgt := 54) hx hb dX2_isFit_12 (by decide) (by omega) (by omega) (fun h_12 => ?_) (fun h_12 => ?_)
      · refine n_iconst 1 hx hb dX2_isFit_54 ?_
        exact g_zret (true) hx hb hrt hlocks dX2_isFit_55 rfl (by rw [show fitB f nn = true from al_yes (fun k hk => hno k (by omega))])
      · refine lv_aload_n hx hb dX2_isFit_15 rfl (lv_at hl 0 rfl) ?_
        refine lv_iload hx hb dX2_isFit_16 (lv_at hl 4 rfl) ?_
        refine g_callS (As := [.ref (ad (rI)), .int (nI (x))]) (rest := []) (c_X2_sumOf l hI hr0 hrow (X := x) (by omega)) (va_cwS 2 hts gX2_isFit_X2_sumOf rfl rfl rfl (by decide +kernel) ⟨Nat.le_of_ble_eq_true rfl, Nat.le_of_ble_eq_true rfl⟩) hx hb hml hown hts hK hP  rfl hl.1 rfl (Nat.le_of_ble_eq_true rfl) (Nat.zero_le _) (Nat.zero_le _) dX2_isFit_18 ?_
        refine lv_istore (lv' := [(5, .int (nI (im f x))), (0, .ref (ad (rI))), (1, .int (nI (nn))), (2, .int (nI (2 ^ nn))), (3, .int (nI (os (fun x => 1 <<< im f x) x))), (4, .int (nI (x)))]) hx hb dX2_isFit_21 hl (by decide) rfl (fun ls hl => ?_)
        refine lv_iload hx hb dX2_isFit_23 (lv_at hl 0 rfl) ?_
        refine lv_iload_n hx hb dX2_isFit_25 rfl (lv_at hl 3 rfl) ?_
        refine n_ge (tgt := 39) hx hb dX2_isFit_26 (by decide) (by have := im16 hf x; omega) (by omega) (fun h_26 => ?_) (fun h_26 => ?_)
        · refine n_iconst 0 hx hb dX2_isFit_39 ?_
          exact g_zret (false) hx hb hrt hlocks dX2_isFit_40 rfl (by rw [show fitB f nn = false from al_no (k := x) (by omega) (by rw [decide_eq_false (Nat.not_lt.mpr h_26), Bool.false_and])])
        · refine lv_iload_n hx hb dX2_isFit_29 rfl (lv_at hl 4 rfl) ?_
          refine lv_iload hx hb dX2_isFit_30 (lv_at hl 0 rfl) ?_
          refine n_ishr hx hb dX2_isFit_32 (by omega) (by omega) ?_
          refine n_iconst 1 hx hb dX2_isFit_33 ?_
          refine n_iand hx hb dX2_isFit_34 ?_
          refine n_iconst 1 hx hb dX2_isFit_35 ?_
          refine n_cne (tgt := 41) hx hb dX2_isFit_36 (by decide) (and1_lt _) (by decide) (fun h_36 => ?_) (fun h_36 => ?_)
          · refine lv_iload_n hx hb dX2_isFit_41 rfl (lv_at hl 4 rfl) ?_
            refine n_iconst 1 hx hb dX2_isFit_42 ?_
            refine lv_iload hx hb dX2_isFit_43 (lv_at hl 0 rfl) ?_
            refine n_ishl hx hb dX2_isFit_45 (by omega) ?_
            refine n_ior hx hb dX2_isFit_46 ?_
            refine lv_istore_n (lv' := [(3, .int (nI ((os (fun x => 1 <<< im f x) x) ||| (1 <<< (im f x))))), (5, .int (nI (im f x))), (0, .ref (ad (rI))), (1, .int (nI (nn))), (2, .int (nI (2 ^ nn))), (4, .int (nI (x)))]) hx hb dX2_isFit_47 rfl hl (by decide) rfl (fun ls hl => ?_)
            refine n_iinc 5 1 (lv' := [(4, .int (nI (x + 1))), (3, .int (nI ((os (fun x => 1 <<< im f x) x) ||| (1 <<< (im f x))))), (5, .int (nI (im f x))), (0, .ref (ad (rI))), (1, .int (nI (nn))), (2, .int (nI (2 ^ nn)))]) hx hb dX2_isFit_48 hl rfl (by decide) rfl (fun ls hl => ?_)
            refine n_goto 9 hx hb dX2_isFit_51 (by decide) ?_
            exact ih_9 ((os (fun x => 1 <<< im f x) x) ||| (1 <<< (im f x))) (x + 1) (by omega) (by omega) rfl (ya_s hno (by rw [decide_eq_true h_26, fit_mis h_36]; rfl)) _ (lv_sub hl [3, 4, 5, 1, 0] rfl)
          · refine n_iconst 0 hx hb dX2_isFit_39 ?_
            exact g_zret (false) hx hb hrt hlocks dX2_isFit_40 rfl (by rw [show fitB f nn = false from al_no (k := x) (by omega) (by rw [fit_hit h_36, Bool.and_false])])
  exact L_9 (2 ^ nn + 1) (0) (0) (Nat.zero_le _) (by omega) rfl (fun j h => absurd h (by omega)) _ (lv_sub hl [3, 4, 2, 1, 0] rfl)
set_option maxHeartbeats 4000000 in
set_option maxRecDepth 100000 in
theorem c_X2_sourceOf (l : Launch) {D : va_G} {tys : List (ClassId × FieldType)} {ad : Nat → Nat} {n : Nat} {E : Nat → va_E} {cI : ClassId} {t0 : Nat} (hI : tys[t0]? = some (cI, .int)) {rI : Nat} {f : Nat → Nat} (hr0 : rI < n) (hrow : E rI = .inl (cI, 4, .inl (nF f))) {nn V : Nat} (hnn : nn ≤ 4) (hf : ∀ i, i < 4 → f i < 16) (hV : V < 2 ^ 31) : Met l yX2_sourceOf wsX2_sourceOf ({ frames := 1, cells := 0, slots := 0, locals := 23 } : Room) (va_Pc [.ref (ad (rI)), .int (nI (nn)), .int (nI (V))] (PB D tys n ad (E))) (k2_QcV (.int (nI (src f nn V)))) 0 0 (fun _ => False) := by
  have p4 := pow4 hnn
  have p0 : 0 < 2 ^ nn := Nat.pow_pos (by decide)
  refine g_pure (cc := cX2_sourceOf) (maxL := 4) (ret := (some .int)) (by decide) rfl (Nat.le_of_ble_eq_true rfl) ?_
  intro p e s m args below meth c hx hb hrt hts hown hlocks hml hP hK ls hl
  show W p l e ({ frames := 1, cells := 0, slots := 0, locals := 23 } : Room) s m args below meth c s.heap [] 0 0 _ _
  have hl : lv_has ls 4 [(0, .ref (ad (rI))), (1, .int (nI (nn))), (2, .int (nI (V)))] := hl
  refine n_iconst 0 hx hb dX2_sourceOf_0 ?_
  refine lv_istore_n (lv' := [(3, .int (nI (0))), (0, .ref (ad (rI))), (1, .int (nI (nn))), (2, .int (nI (V)))]) hx hb dX2_sourceOf_1 rfl hl (by decide) rfl (fun ls hl => ?_)
  have L_2 : ∀ (r : Nat) (x : Nat), (x ≤ 2 ^ nn) → (2 ^ nn < x + r) → (∀ j, 0 ≤ j → j < x → (im f j == V) = false) → ∀ (ls : Array Slot), lv_has ls 4 [(0, .ref (ad (rI))), (1, .int (nI (nn))), (2, .int (nI (V))), (3, .int (nI (x)))] → W p l e ({ frames := 1, cells := 0, slots := 0, locals := 23 } : Room) s m args below meth c s.heap [] 0 0 (MQ below (k2_QcV (.int (nI (src f nn V)))) args s 0 0 (fun _ => False)) (F0 m 2 ls []) := by
    intro r
    induction r with
    | zero => intro x hx1 hr hno; intros; exact absurd hr (by omega)
    | succ r ih =>
      intro x hx1 hr hno ls hl
      have ih_2 := ih
      refine lv_iload_n hx hb dX2_sourceOf_2 rfl (lv_at hl 3 rfl) ?_
      refine n_iconst 1 hx hb dX2_sourceOf_3 ?_
      refine lv_iload_n hx hb dX2_sourceOf_4 rfl (lv_at hl 1 rfl) ?_
      refine n_ishl hx hb dX2_sourceOf_5 (by omega) ?_
      refine n_eq (show nI (1 <<< nn) = nI (2 ^ nn) from by rw [shl1]) ?_
      refine n_ge (tgt := 26) hx hb dX2_sourceOf_6 (by decide) (by omega) (by omega) (fun h_6 => ?_) (fun h_6 => ?_)
      · refine n_iconst 0 hx hb dX2_sourceOf_26 ?_
        exact g_iret hx hb hrt hlocks dX2_sourceOf_27 (by rw [show src f nn V = 0 from by unfold src; rw [fl_no (fun j h1 h2 => hno j h1 (by omega))]; rfl])
      · refine lv_aload_n hx hb dX2_sourceOf_9 rfl (lv_at hl 0 rfl) ?_
        refine lv_iload_n hx hb dX2_sourceOf_10 rfl (lv_at hl 3 rfl) ?_
        refine g_callS (As := [.ref (ad (rI)), .int (nI (x))]) (rest := []) (c_X2_sumOf l hI hr0 hrow (X := x) (by omega)) (va_cwS 2 hts gX2_sourceOf_X2_sumOf rfl rfl rfl (by decide +kernel) ⟨Nat.le_of_ble_eq_true rfl, Nat.le_of_ble_eq_true rfl⟩) hx hb hml hown hts hK hP  rfl hl.1 rfl (Nat.le_of_ble_eq_true rfl) (Nat.zero_le _) (Nat.zero_le _) dX2_sourceOf_11 ?_
        refine lv_iload_n hx hb dX2_sourceOf_14 rfl (lv_at hl 2 rfl) ?_
        refine n_cne (tgt := 20) hx hb dX2_sourceOf_15 (by decide) (by have := im16 hf x; omega) hV (fun h_15 => ?_) (fun h_15 => ?_)
        · refine n_iinc 3 1 (lv' := [(3, .int (nI (x + 1))), (0, .ref (ad (rI))), (1, .int (nI (nn))), (2, .int (nI (V)))]) hx hb dX2_sourceOf_20 hl rfl (by decide) rfl (fun ls hl => ?_)
          refine n_goto 2 hx hb dX2_sourceOf_23 (by decide) ?_
          exact ih_2 (x + 1) (by omega) (by omega) (no_s hno (bF h_15)) _ (lv_sub hl [1, 2, 3, 0] rfl)
        · refine lv_iload_n hx hb dX2_sourceOf_18 rfl (lv_at hl 3 rfl) ?_
          exact g_iret hx hb hrt hlocks dX2_sourceOf_19 (by rw [show src f nn V = x from by unfold src; rw [fl_at (p := fun x => im f x == V) (Nat.zero_le x) (by omega) (bT h_15) hno]; rfl])
  exact L_2 (2 ^ nn + 1) (0) (Nat.zero_le _) (by omega) (fun j h1 h2 => absurd h2 (by omega)) _ (lv_sub hl [1, 2, 3, 0] rfl)
set_option maxHeartbeats 4000000 in
set_option maxRecDepth 100000 in
theorem c_X2_turnedBit (l : Launch) {D : va_G} {tys : List (ClassId × FieldType)} {ad : Nat → Nat} {n : Nat} {E : Nat → va_E} {cI : ClassId} {t0 b nn : Nat} {c0 tt : Nat → Nat} (hI : tys[t0]? = some (cI, .int)) (hbn : b + 2 < n) (hw : isW cI ad E b nn c0 tt) {I J K T : Nat} (hnn : nn ≤ 4) (hcb : CB nn c0) (hI4 : I < nn) (hJ4 : J < nn) (hK4 : K < nn) (hT : T < 6) : Met l yX2_turnedBit wsX2_turnedBit ({ frames := 3, cells := 0, slots := 0, locals := 66 } : Room) (va_Pc [.ref (ad (b)), .int (nI (I)), .int (nI (J)), .int (nI (K)), .int (nI (T))] (PB D tys n ad (E))) (k2_QcV (.int (nI (tbS c0 T I J K)))) 0 0 (fun _ => False) := by
  refine g_pure (cc := cX2_turnedBit) (maxL := 5) (ret := (some .int)) (by decide) rfl (Nat.le_of_ble_eq_true rfl) ?_
  intro p e s m args below meth c hx hb hrt hts hown hlocks hml hP hK ls hl
  show W p l e ({ frames := 3, cells := 0, slots := 0, locals := 66 } : Room) s m args below meth c s.heap [] 0 0 _ _
  have hl : lv_has ls 5 [(0, .ref (ad (b))), (1, .int (nI (I))), (2, .int (nI (J))), (3, .int (nI (K))), (4, .int (nI (T)))] := hl
  refine lv_iload hx hb dX2_turnedBit_0 (lv_at hl 4 rfl) ?_
  rcases (show T = 0 ∨ T = 1 ∨ T = 2 ∨ T = 3 ∨ T = 4 ∨ T = 5 by omega) with e9 | e9 | e9 | e9 | e9 | e9
  · subst e9
    refine lv_tableOut (tgt := 76) hx hb dX2_turnedBit_2 (by decide) (by decide) ?_
    refine lv_aload_n hx hb dX2_turnedBit_76 rfl (lv_at hl 0 rfl) ?_
    refine lv_iload_n hx hb dX2_turnedBit_77 rfl (lv_at hl 1 rfl) ?_
    refine lv_iload_n hx hb dX2_turnedBit_78 rfl (lv_at hl 2 rfl) ?_
    refine lv_iload_n hx hb dX2_turnedBit_79 rfl (lv_at hl 3 rfl) ?_
    refine g_callV (b) (C := RX1) (T := TX1) (N := 4) (ci := 0) (As := [.int (nI (I)), .int (nI (J)), .int (nI (K))]) (rest := []) (c_X1_cubeBit l hI hbn hw (I := I) (J := J) (K := K) hnn hcb (by omega) (by omega) (by omega)) (cwV 3 hts gX2_turnedBit_X1_cubeBit rfl rfl rfl (by decide +kernel) ⟨Nat.le_of_ble_eq_true rfl, Nat.le_of_ble_eq_true rfl⟩) hx hb hml hown hts hK hP  (by omega) hw.1 rfl rfl hl.1 rfl (Nat.le_of_ble_eq_true rfl) (Nat.zero_le _) (Nat.zero_le _) dX2_turnedBit_80 ?_
    exact g_iret hx hb hrt hlocks dX2_turnedBit_83 rfl
  · subst e9
    refine lv_tableIn (off := 34) (tgt := 36) hx hb dX2_turnedBit_2 (by decide) (by decide) (by decide) (by decide) ?_
    refine lv_aload_n hx hb dX2_turnedBit_36 rfl (lv_at hl 0 rfl) ?_
    refine lv_iload_n hx hb dX2_turnedBit_37 rfl (lv_at hl 1 rfl) ?_
    refine lv_iload_n hx hb dX2_turnedBit_38 rfl (lv_at hl 3 rfl) ?_
    refine lv_iload_n hx hb dX2_turnedBit_39 rfl (lv_at hl 2 rfl) ?_
    refine g_callV (b) (C := RX1) (T := TX1) (N := 4) (ci := 0) (As := [.int (nI (I)), .int (nI (K)), .int (nI (J))]) (rest := []) (c_X1_cubeBit l hI hbn hw (I := I) (J := K) (K := J) hnn hcb (by omega) (by omega) (by omega)) (cwV 3 hts gX2_turnedBit_X1_cubeBit rfl rfl rfl (by decide +kernel) ⟨Nat.le_of_ble_eq_true rfl, Nat.le_of_ble_eq_true rfl⟩) hx hb hml hown hts hK hP  (by omega) hw.1 rfl rfl hl.1 rfl (Nat.le_of_ble_eq_true rfl) (Nat.zero_le _) (Nat.zero_le _) dX2_turnedBit_40 ?_
    exact g_iret hx hb hrt hlocks dX2_turnedBit_43 rfl
  · subst e9
    refine lv_tableIn (off := 42) (tgt := 44) hx hb dX2_turnedBit_2 (by decide) (by decide) (by decide) (by decide) ?_
    refine lv_aload_n hx hb dX2_turnedBit_44 rfl (lv_at hl 0 rfl) ?_
    refine lv_iload_n hx hb dX2_turnedBit_45 rfl (lv_at hl 2 rfl) ?_
    refine lv_iload_n hx hb dX2_turnedBit_46 rfl (lv_at hl 1 rfl) ?_
    refine lv_iload_n hx hb dX2_turnedBit_47 rfl (lv_at hl 3 rfl) ?_
    refine g_callV (b) (C := RX1) (T := TX1) (N := 4) (ci := 0) (As := [.int (nI (J)), .int (nI (I)), .int (nI (K))]) (rest := []) (c_X1_cubeBit l hI hbn hw (I := J) (J := I) (K := K) hnn hcb (by omega) (by omega) (by omega)) (cwV 3 hts gX2_turnedBit_X1_cubeBit rfl rfl rfl (by decide +kernel) ⟨Nat.le_of_ble_eq_true rfl, Nat.le_of_ble_eq_true rfl⟩) hx hb hml hown hts hK hP  (by omega) hw.1 rfl rfl hl.1 rfl (Nat.le_of_ble_eq_true rfl) (Nat.zero_le _) (Nat.zero_le _) dX2_turnedBit_48 ?_
    exact g_iret hx hb hrt hlocks dX2_turnedBit_51 rfl
  · subst e9
    refine lv_tableIn (off := 50) (tgt := 52) hx hb dX2_turnedBit_2 (by decide) (by decide) (by decide) (by decide) ?_
    refine lv_aload_n hx hb dX2_turnedBit_52 rfl (lv_at hl 0 rfl) ?_
    refine lv_iload_n hx hb dX2_turnedBit_53 rfl (lv_at hl 2 rfl) ?_
    refine lv_iload_n hx hb dX2_turnedBit_54 rfl (lv_at hl 3 rfl) ?_
    refine lv_iload_n hx hb dX2_turnedBit_55 rfl (lv_at hl 1 rfl) ?_
    refine g_callV (b) (C := RX1) (T := TX1) (N := 4) (ci := 0) (As := [.int (nI (J)), .int (nI (K)), .int (nI (I))]) (rest := []) (c_X1_cubeBit l hI hbn hw (I := J) (J := K) (K := I) hnn hcb (by omega) (by omega) (by omega)) (cwV 3 hts gX2_turnedBit_X1_cubeBit rfl rfl rfl (by decide +kernel) ⟨Nat.le_of_ble_eq_true rfl, Nat.le_of_ble_eq_true rfl⟩) hx hb hml hown hts hK hP  (by omega) hw.1 rfl rfl hl.1 rfl (Nat.le_of_ble_eq_true rfl) (Nat.zero_le _) (Nat.zero_le _) dX2_turnedBit_56 ?_
    exact g_iret hx hb hrt hlocks dX2_turnedBit_59 rfl
  · subst e9
    refine lv_tableIn (off := 58) (tgt := 60) hx hb dX2_turnedBit_2 (by decide) (by decide) (by decide) (by decide) ?_
    refine lv_aload_n hx hb dX2_turnedBit_60 rfl (lv_at hl 0 rfl) ?_
    refine lv_iload_n hx hb dX2_turnedBit_61 rfl (lv_at hl 3 rfl) ?_
    refine lv_iload_n hx hb dX2_turnedBit_62 rfl (lv_at hl 1 rfl) ?_
    refine lv_iload_n hx hb dX2_turnedBit_63 rfl (lv_at hl 2 rfl) ?_
    refine g_callV (b) (C := RX1) (T := TX1) (N := 4) (ci := 0) (As := [.int (nI (K)), .int (nI (I)), .int (nI (J))]) (rest := []) (c_X1_cubeBit l hI hbn hw (I := K) (J := I) (K := J) hnn hcb (by omega) (by omega) (by omega)) (cwV 3 hts gX2_turnedBit_X1_cubeBit rfl rfl rfl (by decide +kernel) ⟨Nat.le_of_ble_eq_true rfl, Nat.le_of_ble_eq_true rfl⟩) hx hb hml hown hts hK hP  (by omega) hw.1 rfl rfl hl.1 rfl (Nat.le_of_ble_eq_true rfl) (Nat.zero_le _) (Nat.zero_le _) dX2_turnedBit_64 ?_
    exact g_iret hx hb hrt hlocks dX2_turnedBit_67 rfl
  · subst e9
    refine lv_tableIn (off := 66) (tgt := 68) hx hb dX2_turnedBit_2 (by decide) (by decide) (by decide) (by decide) ?_
    refine lv_aload_n hx hb dX2_turnedBit_68 rfl (lv_at hl 0 rfl) ?_
    refine lv_iload_n hx hb dX2_turnedBit_69 rfl (lv_at hl 3 rfl) ?_
    refine lv_iload_n hx hb dX2_turnedBit_70 rfl (lv_at hl 2 rfl) ?_
    refine lv_iload_n hx hb dX2_turnedBit_71 rfl (lv_at hl 1 rfl) ?_
    refine g_callV (b) (C := RX1) (T := TX1) (N := 4) (ci := 0) (As := [.int (nI (K)), .int (nI (J)), .int (nI (I))]) (rest := []) (c_X1_cubeBit l hI hbn hw (I := K) (J := J) (K := I) hnn hcb (by omega) (by omega) (by omega)) (cwV 3 hts gX2_turnedBit_X1_cubeBit rfl rfl rfl (by decide +kernel) ⟨Nat.le_of_ble_eq_true rfl, Nat.le_of_ble_eq_true rfl⟩) hx hb hml hown hts hK hP  (by omega) hw.1 rfl rfl hl.1 rfl (Nat.le_of_ble_eq_true rfl) (Nat.zero_le _) (Nat.zero_le _) dX2_turnedBit_72 ?_
    exact g_iret hx hb hrt hlocks dX2_turnedBit_75 rfl
set_option maxHeartbeats 4000000 in
set_option maxRecDepth 100000 in
theorem c_X2_turnedCell (l : Launch) {D : va_G} {tys : List (ClassId × FieldType)} {ad : Nat → Nat} {n : Nat} {E : Nat → va_E} {cI : ClassId} {t0 b nn : Nat} {c0 tt : Nat → Nat} (hI : tys[t0]? = some (cI, .int)) (hbn : b + 2 < n) (hw : isW cI ad E b nn c0 tt) {I J T : Nat} (hnn : nn ≤ 4) (hcb : CB nn c0) (hI4 : I < nn) (hJ4 : J < nn) (hT : T < 6) : Met l yX2_turnedCell wsX2_turnedCell ({ frames := 4, cells := 0, slots := 0, locals := 90 } : Room) (va_Pc [.ref (ad (b)), .int (nI (I)), .int (nI (J)), .int (nI (T))] (PB D tys n ad (E))) (k2_QcV (.int (nI (tcS nn c0 T I J)))) 0 0 (fun _ => False) := by
  refine g_pure (cc := cX2_turnedCell) (maxL := 6) (ret := (some .int)) (by decide) rfl (Nat.le_of_ble_eq_true rfl) ?_
  intro p e s m args below meth c hx hb hrt hts hown hlocks hml hP hK ls hl
  show W p l e ({ frames := 4, cells := 0, slots := 0, locals := 90 } : Room) s m args below meth c s.heap [] 0 0 _ _
  have hl : lv_has ls 6 [(0, .ref (ad (b))), (1, .int (nI (I))), (2, .int (nI (J))), (3, .int (nI (T)))] := hl
  refine n_iconst 0 hx hb dX2_turnedCell_0 ?_
  refine lv_istore (lv' := [(4, .int (nI (0))), (0, .ref (ad (b))), (1, .int (nI (I))), (2, .int (nI (J))), (3, .int (nI (T)))]) hx hb dX2_turnedCell_1 hl (by decide) rfl (fun ls hl => ?_)
  refine n_iconst 0 hx hb dX2_turnedCell_3 ?_
  refine lv_istore (lv' := [(5, .int (nI (0))), (4, .int (nI (0))), (0, .ref (ad (b))), (1, .int (nI (I))), (2, .int (nI (J))), (3, .int (nI (T)))]) hx hb dX2_turnedCell_4 hl (by decide) rfl (fun ls hl => ?_)
  have L_6 : ∀ (r : Nat) (acc : Nat) (k : Nat), (k ≤ nn) → (nn < k + r) → (acc = os (fun k => tbS c0 T I J k <<< k) k) → ∀ (ls : Array Slot), lv_has ls 6 [(0, .ref (ad (b))), (1, .int (nI (I))), (2, .int (nI (J))), (3, .int (nI (T))), (4, .int (nI (acc))), (5, .int (nI (k)))] → W p l e ({ frames := 4, cells := 0, slots := 0, locals := 90 } : Room) s m args below meth c s.heap [] 0 0 (MQ below (k2_QcV (.int (nI (tcS nn c0 T I J)))) args s 0 0 (fun _ => False)) (F0 m 6 ls []) := by
    intro r
    induction r with
    | zero => intro acc k hk hr ha; intros; exact absurd hr (by omega)
    | succ r ih =>
      intro acc k hk hr ha ls hl
      have ih_6 := ih
      refine lv_iload hx hb dX2_turnedCell_6 (lv_at hl 5 rfl) ?_
      refine lv_aload_n hx hb dX2_turnedCell_8 rfl (lv_at hl 0 rfl) ?_
      refine g_callV (b) (C := RX1) (T := TX1) (N := 4) (ci := 0) (As := []) (rest := [.int (nI (k))]) (c_X1_bits l hI hbn hw) (cwV 0 hts gX2_turnedCell_X1_bits rfl rfl rfl (by decide +kernel) ⟨Nat.le_of_ble_eq_true rfl, Nat.le_of_ble_eq_true rfl⟩) hx hb hml hown hts hK hP  (by omega) hw.1 rfl rfl hl.1 rfl (Nat.le_of_ble_eq_true rfl) (Nat.zero_le _) (Nat.zero_le _) dX2_turnedCell_9 ?_
      refine n_ge (tgt := 38) hx hb dX2_turnedCell_12 (by decide) (by omega) (by omega) (fun h_12 => ?_) (fun h_12 => ?_)
      · refine lv_iload hx hb dX2_turnedCell_38 (lv_at hl 4 rfl) ?_
        exact g_iret hx hb hrt hlocks dX2_turnedCell_40 (by rw [ha, show k = nn by omega]; rfl)
      · refine lv_iload hx hb dX2_turnedCell_15 (lv_at hl 4 rfl) ?_
        refine lv_aload_n hx hb dX2_turnedCell_17 rfl (lv_at hl 0 rfl) ?_
        refine lv_iload_n hx hb dX2_turnedCell_18 rfl (lv_at hl 1 rfl) ?_
        refine lv_iload_n hx hb dX2_turnedCell_19 rfl (lv_at hl 2 rfl) ?_
        refine lv_iload hx hb dX2_turnedCell_20 (lv_at hl 5 rfl) ?_
        refine lv_iload_n hx hb dX2_turnedCell_22 rfl (lv_at hl 3 rfl) ?_
        refine g_callS (As := [.ref (ad (b)), .int (nI (I)), .int (nI (J)), .int (nI (k)), .int (nI (T))]) (rest := [.int (nI (acc))]) (c_X2_turnedBit l hI hbn hw (I := I) (J := J) (K := k) (T := T) hnn hcb hI4 hJ4 (by omega) hT) (va_cwS 5 hts gX2_turnedCell_X2_turnedBit rfl rfl rfl (by decide +kernel) ⟨Nat.le_of_ble_eq_true rfl, Nat.le_of_ble_eq_true rfl⟩) hx hb hml hown hts hK hP  rfl hl.1 rfl (Nat.le_of_ble_eq_true rfl) (Nat.zero_le _) (Nat.zero_le _) dX2_turnedCell_23 ?_
        refine lv_iload hx hb dX2_turnedCell_26 (lv_at hl 5 rfl) ?_
        refine n_ishl hx hb dX2_turnedCell_28 (by omega) ?_
        refine n_ior hx hb dX2_turnedCell_29 ?_
        refine lv_istore (lv' := [(4, .int (nI (acc ||| ((tbS c0 T I J k) <<< k)))), (0, .ref (ad (b))), (1, .int (nI (I))), (2, .int (nI (J))), (3, .int (nI (T))), (5, .int (nI (k)))]) hx hb dX2_turnedCell_30 hl (by decide) rfl (fun ls hl => ?_)
        refine n_iinc 5 1 (lv' := [(5, .int (nI (k + 1))), (4, .int (nI (acc ||| ((tbS c0 T I J k) <<< k)))), (0, .ref (ad (b))), (1, .int (nI (I))), (2, .int (nI (J))), (3, .int (nI (T)))]) hx hb dX2_turnedCell_32 hl rfl (by decide) rfl (fun ls hl => ?_)
        refine n_goto 6 hx hb dX2_turnedCell_35 (by decide) ?_
        exact ih_6 (acc ||| ((tbS c0 T I J k) <<< k)) (k + 1) (by omega) (by omega) (by rw [ha]; rfl) _ (lv_sub hl [2, 3, 4, 5, 1, 0] rfl)
  exact L_6 (nn + 1) (0) (0) (Nat.zero_le _) (by omega) rfl _ (lv_sub hl [2, 3, 4, 5, 1, 0] rfl)
end
