set_option maxRecDepth 1000000 in
theorem k_310_0 : ckM 202 sp_310 us_310 ic_310 20000 20 36 os_310 (c_310_0 :: K_310) c_310_0 = true := by decide +kernel
set_option maxRecDepth 100000 in
theorem ok_310 {l : Launch} (htr : l.stackTraces = false) {sb : eSB} (hvs : sb.1 60 = 1) {D : va_G} {cA : Nat → ClassId} : ctH l sb D cA 202 6 as_310 B_310 hp_310 (os_310.map (fun w => w.1)) := ctH_of htr hvs (M := 202) (by decide) (lev := 5) (by decide) (L := us_310) (by decide +kernel) (fun _ h => absurd h List.not_mem_nil) (n := 20000) (sp := sp_310) (isC := ic_310) (c0 := c_310_0) (K := K_310) (by decide +kernel) rfl (List.forall_mem_cons.mpr ⟨k_310_0, (fun _ h => absurd h List.not_mem_nil)⟩)
