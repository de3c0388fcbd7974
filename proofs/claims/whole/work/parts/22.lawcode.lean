theorem okmCL_law : p_okM CL_law = true := by
  have h : (cdE CL_law).length = 1069 := by decide +kernel
  unfold p_okM
  rw [h]
  exact (p_okR_add (a := 0) (n := 1000) (k := 69) (p_okR_add (a := 0) (n := 900) (k := 100) (p_okR_add (a := 0) (n := 800) (k := 100) (p_okR_add (a := 0) (n := 700) (k := 100) (p_okR_add (a := 0) (n := 600) (k := 100) (p_okR_add (a := 0) (n := 500) (k := 100) (p_okR_add (a := 0) (n := 400) (k := 100) (p_okR_add (a := 0) (n := 300) (k := 100) (p_okR_add (a := 0) (n := 200) (k := 100) (p_okR_add (a := 0) (n := 100) (k := 100) okCL_law_0 okCL_law_100) okCL_law_200) okCL_law_300) okCL_law_400) okCL_law_500) okCL_law_600) okCL_law_700) okCL_law_800) okCL_law_900) okCL_law_1000)
