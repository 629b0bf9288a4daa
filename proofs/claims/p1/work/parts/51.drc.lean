def dr_jt : List (List (Nat × Nat)) := ab_jt.set 89 [(7, 37)]
def dr_H1 : List ab_C := ((ab_aC).set 44 (.inr (10, [(3, 1, 0), (3, 34, 0), (3, 45, 0), (3, 46, 0), (3, 47, 0), (3, 48, 0), (3, 49, 0), (3, 50, 0), (3, 51, 0), (0, 2147483648, 2147483652), (0, 2147483647, 2147483647)]))).set 47 (.inl (0, 4, (2147483648, 2147483655), []))
def dr_H0 : List ab_C := (((((ab_aC).set 44 (.inr (10, [(3, 1, 0), (3, 34, 0), (3, 45, 0), (3, 46, 0), (3, 47, 0), (3, 48, 0), (3, 49, 0), (3, 50, 0), (3, 51, 0), (0, 2147483648, 2147483652), (0, 2147483648, 2147483648)]))).set 45 (.inl (0, 8, (2147483648, 2147483657), []))).set 46 (.inl (0, 8, (2147483648, 2147483657), []))).set 47 (.inl (0, 4, (2147483648, 2147483655), []))).set 49 (.inl (0, 8, (2147483648, 2147483657), []))
def dr_Hr : List ab_C := ((ab_aC).set 44 (.inr (10, [(3, 1, 0), (3, 34, 0), (3, 45, 0), (3, 46, 0), (3, 47, 0), (3, 48, 0), (3, 49, 0), (3, 50, 0), (3, 51, 0), (0, 2147483648, 2147483652), (0, 2147483648, 2147483648)]))).set 47 (.inl (0, 4, (2147483648, 2147483655), []))
def dr_w1 : ab_E := (5, 92, [(3, 44, 0)], dr_H1, [], dr_H0)
set_option maxRecDepth 100000 in
theorem dr_w1_val : ab_val dr_w1 := ab_val_of (es := []) (jt := dr_jt) (F := 4000) _ ab_nil (by decide +kernel) (by decide +kernel) (ab_cov0 rfl)
def dr_w0 : ab_E := (5, 92, [(3, 44, 0)], dr_H0, [], dr_H0)
set_option maxRecDepth 100000 in
theorem dr_w0_val : ab_val dr_w0 := ab_val_of (es := []) (jt := dr_jt) (F := 4000) _ ab_nil (by decide +kernel) (by decide +kernel) (ab_cov0 rfl)
def dr_v41 : ab_E := (6, 91, [(3, 44, 0), (0, 2147483652, 2147483652), (0, 2147483648, 2147483684)], dr_H1, [], dr_H0)
set_option maxRecDepth 100000 in
theorem dr_v41_val : ab_val dr_v41 := ab_val_of (es := [dr_w1, dr_w0]) (jt := dr_jt) (F := 4000) _ (ab_cons1 dr_w1_val (ab_cons1 dr_w0_val ab_nil)) (by decide +kernel) (by decide +kernel) (ab_cov1 2 2147483648 2147483684 rfl rfl)
def dr_v40 : ab_E := (6, 91, [(3, 44, 0), (0, 2147483652, 2147483652), (0, 2147483648, 2147483684)], dr_H0, [], dr_H0)
set_option maxRecDepth 100000 in
theorem dr_v40_val : ab_val dr_v40 := ab_val_of (es := [dr_w1, dr_w0]) (jt := dr_jt) (F := 4000) _ (ab_cons1 dr_w1_val (ab_cons1 dr_w0_val ab_nil)) (by decide +kernel) (by decide +kernel) (ab_cov1 2 2147483648 2147483684 rfl rfl)
def dr_v31 : ab_E := (7, 91, [(3, 44, 0), (0, 2147483651, 2147483651), (0, 2147483648, 2147483684)], dr_H1, [], dr_H0)
set_option maxRecDepth 100000 in
theorem dr_v31_val : ab_val dr_v31 := ab_val_of (es := [dr_w1, dr_w0, dr_v41, dr_v40]) (jt := dr_jt) (F := 4000) _ (ab_cons1 dr_w1_val (ab_cons1 dr_w0_val (ab_cons1 dr_v41_val (ab_cons1 dr_v40_val ab_nil)))) (by decide +kernel) (by decide +kernel) (ab_cov1 2 2147483648 2147483684 rfl rfl)
def dr_v30 : ab_E := (7, 91, [(3, 44, 0), (0, 2147483651, 2147483651), (0, 2147483648, 2147483684)], dr_H0, [], dr_H0)
set_option maxRecDepth 100000 in
theorem dr_v30_val : ab_val dr_v30 := ab_val_of (es := [dr_w1, dr_w0, dr_v41, dr_v40]) (jt := dr_jt) (F := 4000) _ (ab_cons1 dr_w1_val (ab_cons1 dr_w0_val (ab_cons1 dr_v41_val (ab_cons1 dr_v40_val ab_nil)))) (by decide +kernel) (by decide +kernel) (ab_cov1 2 2147483648 2147483684 rfl rfl)
def dr_v21 : ab_E := (8, 91, [(3, 44, 0), (0, 2147483650, 2147483650), (0, 2147483648, 2147483684)], dr_H1, [], dr_H0)
set_option maxRecDepth 100000 in
theorem dr_v21_val : ab_val dr_v21 := ab_val_of (es := [dr_w1, dr_w0, dr_v31, dr_v30]) (jt := dr_jt) (F := 4000) _ (ab_cons1 dr_w1_val (ab_cons1 dr_w0_val (ab_cons1 dr_v31_val (ab_cons1 dr_v30_val ab_nil)))) (by decide +kernel) (by decide +kernel) (ab_cov1 2 2147483648 2147483684 rfl rfl)
def dr_v20 : ab_E := (8, 91, [(3, 44, 0), (0, 2147483650, 2147483650), (0, 2147483648, 2147483684)], dr_H0, [], dr_H0)
set_option maxRecDepth 100000 in
theorem dr_v20_val : ab_val dr_v20 := ab_val_of (es := [dr_w1, dr_w0, dr_v31, dr_v30]) (jt := dr_jt) (F := 4000) _ (ab_cons1 dr_w1_val (ab_cons1 dr_w0_val (ab_cons1 dr_v31_val (ab_cons1 dr_v30_val ab_nil)))) (by decide +kernel) (by decide +kernel) (ab_cov1 2 2147483648 2147483684 rfl rfl)
def dr_v11 : ab_E := (9, 91, [(3, 44, 0), (0, 2147483649, 2147483649), (0, 2147483648, 2147483684)], dr_H1, [], dr_H0)
set_option maxRecDepth 100000 in
theorem dr_v11_val : ab_val dr_v11 := ab_val_of (es := [dr_w1, dr_w0, dr_v21, dr_v20]) (jt := dr_jt) (F := 4000) _ (ab_cons1 dr_w1_val (ab_cons1 dr_w0_val (ab_cons1 dr_v21_val (ab_cons1 dr_v20_val ab_nil)))) (by decide +kernel) (by decide +kernel) (ab_cov1 2 2147483648 2147483684 rfl rfl)
def dr_v10 : ab_E := (9, 91, [(3, 44, 0), (0, 2147483649, 2147483649), (0, 2147483648, 2147483684)], dr_H0, [], dr_H0)
set_option maxRecDepth 100000 in
theorem dr_v10_val : ab_val dr_v10 := ab_val_of (es := [dr_w1, dr_w0, dr_v21, dr_v20]) (jt := dr_jt) (F := 4000) _ (ab_cons1 dr_w1_val (ab_cons1 dr_w0_val (ab_cons1 dr_v21_val (ab_cons1 dr_v20_val ab_nil)))) (by decide +kernel) (by decide +kernel) (ab_cov1 2 2147483648 2147483684 rfl rfl)
def dr_v01 : ab_E := (10, 91, [(3, 44, 0), (0, 2147483648, 2147483648), (0, 2147483648, 2147483684)], dr_H1, [], dr_H0)
set_option maxRecDepth 100000 in
theorem dr_v01_val : ab_val dr_v01 := ab_val_of (es := [dr_w1, dr_w0, dr_v11, dr_v10]) (jt := dr_jt) (F := 4000) _ (ab_cons1 dr_w1_val (ab_cons1 dr_w0_val (ab_cons1 dr_v11_val (ab_cons1 dr_v10_val ab_nil)))) (by decide +kernel) (by decide +kernel) (ab_cov1 2 2147483648 2147483684 rfl rfl)
def dr_v00 : ab_E := (10, 91, [(3, 44, 0), (0, 2147483648, 2147483648), (0, 2147483648, 2147483684)], dr_H0, [], dr_H0)
set_option maxRecDepth 100000 in
theorem dr_v00_val : ab_val dr_v00 := ab_val_of (es := [dr_w1, dr_w0, dr_v11, dr_v10]) (jt := dr_jt) (F := 4000) _ (ab_cons1 dr_w1_val (ab_cons1 dr_w0_val (ab_cons1 dr_v11_val (ab_cons1 dr_v10_val ab_nil)))) (by decide +kernel) (by decide +kernel) (ab_cov1 2 2147483648 2147483684 rfl rfl)
def dr_r : ab_E := (10, 90, [(3, 44, 0), (0, 2147483648, 2147483684)], dr_Hr, [], dr_Hr)
set_option maxRecDepth 100000 in
theorem dr_r_val : ab_val dr_r := ab_val_of (es := []) (jt := dr_jt) (F := 4000) _ ab_nil (by decide +kernel) (by decide +kernel) (ab_cov0 rfl)
def dr_s : ab_E := (11, 89, [(3, 44, 0), (0, 2147483648, 2147483684), (0, 2147483649, 2147483903)], ab_aC, [], dr_H0)
set_option maxRecDepth 100000 in
theorem dr_s_val : ab_val dr_s := ab_val_of (es := [dr_r, dr_v01]) (jt := dr_jt) (F := 4000) _ (ab_cons1 dr_r_val (ab_cons1 dr_v01_val ab_nil)) (by decide +kernel) (by decide +kernel) (ab_cov0 rfl)
