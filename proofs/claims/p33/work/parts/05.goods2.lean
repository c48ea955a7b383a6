set_option maxRecDepth 20000 in
theorem gL_call_L_tryAppend : GoodIn vL_call (va_wsS RL 107 yL_tryAppend wsL_tryAppend) := gdB_inC (gdB_app (zgB_r zg_h [Cond.methodLink RL 107 yL_tryAppend, Cond.static yL_tryAppend, Cond.initialized RL] [(3, 11), (3, 12), (2, 20)] (by decide +kernel) (by decide +kernel)) gB_L_tryAppend)
set_option maxRecDepth 20000 in
theorem gL_call_L_tryLoad : GoodIn vL_call (va_wsS RL 113 yL_tryLoad wsL_tryLoad) := gdB_inC (gdB_app (zgB_r zg_h [Cond.methodLink RL 113 yL_tryLoad, Cond.static yL_tryLoad, Cond.initialized RL] [(4, 6), (4, 7), (2, 20)] (by decide +kernel) (by decide +kernel)) gB_L_tryLoad)
set_option maxRecDepth 20000 in
theorem gL_call_L_tryAbout : GoodIn vL_call (va_wsS RL 117 yL_tryAbout wsL_tryAbout) := gdB_inC (gdB_app (zgB_r zg_h [Cond.methodLink RL 117 yL_tryAbout, Cond.static yL_tryAbout, Cond.initialized RL] [(16, 15), (16, 16), (2, 20)] (by decide +kernel) (by decide +kernel)) gB_L_tryAbout)
set_option maxRecDepth 20000 in
theorem gL_call_L_tryChild : GoodIn vL_call (va_wsS RL 120 yL_tryChild wsL_tryChild) := gdB_inC (gdB_app (zgB_r zg_h [Cond.methodLink RL 120 yL_tryChild, Cond.static yL_tryChild, Cond.initialized RL] [(18, 1), (18, 2), (2, 20)] (by decide +kernel) (by decide +kernel)) gB_L_tryChild)
set_option maxRecDepth 20000 in
theorem gL_call_L_tryFamily : GoodIn vL_call (va_wsS RL 124 yL_tryFamily wsL_tryFamily) := gdB_inC (gdB_app (zgB_r zg_h [Cond.methodLink RL 124 yL_tryFamily, Cond.static yL_tryFamily, Cond.initialized RL] [(19, 10), (19, 11), (2, 20)] (by decide +kernel) (by decide +kernel)) gB_L_tryFamily)
set_option maxRecDepth 20000 in
theorem gL_call_L_tryDay : GoodIn vL_call (va_wsS RL 127 yL_tryDay wsL_tryDay) := gdB_inC (gdB_app (zgB_r zg_h [Cond.methodLink RL 127 yL_tryDay, Cond.static yL_tryDay, Cond.initialized RL] [(20, 8), (20, 9), (2, 20)] (by decide +kernel) (by decide +kernel)) gB_L_tryDay)
set_option maxRecDepth 20000 in
theorem gL_call_L_tryMeal : GoodIn vL_call (va_wsS RL 130 yL_tryMeal wsL_tryMeal) := gdB_inC (gdB_app (zgB_r zg_h [Cond.methodLink RL 130 yL_tryMeal, Cond.static yL_tryMeal, Cond.initialized RL] [(20, 23), (21, 0), (2, 20)] (by decide +kernel) (by decide +kernel)) gB_L_tryMeal)
set_option maxRecDepth 20000 in
theorem gL_call_L_trySetting : GoodIn vL_call (va_wsS RL 134 yL_trySetting wsL_trySetting) := gdB_inC (gdB_app (zgB_r zg_h [Cond.methodLink RL 134 yL_trySetting, Cond.static yL_trySetting, Cond.initialized RL] [(21, 9), (21, 10), (2, 20)] (by decide +kernel) (by decide +kernel)) gB_L_trySetting)
set_option maxRecDepth 20000 in
theorem gL_call_L_tryCome : GoodIn vL_call (va_wsS RL 137 yL_tryCome wsL_tryCome) := gdB_inC (gdB_app (zgB_r zg_h [Cond.methodLink RL 137 yL_tryCome, Cond.static yL_tryCome, Cond.initialized RL] [(21, 18), (21, 19), (2, 20)] (by decide +kernel) (by decide +kernel)) gB_L_tryCome)
set_option maxRecDepth 20000 in
theorem gL_call_L_tryMenu : GoodIn vL_call (va_wsS RL 140 yL_tryMenu wsL_tryMenu) := gdB_inC (gdB_app (zgB_r zg_h [Cond.methodLink RL 140 yL_tryMenu, Cond.static yL_tryMenu, Cond.initialized RL] [(23, 8), (23, 9), (2, 20)] (by decide +kernel) (by decide +kernel)) gB_L_tryMenu)
set_option maxRecDepth 20000 in
theorem gL_call_L_tryPay : GoodIn vL_call (va_wsS RL 143 yL_tryPay wsL_tryPay) := gdB_inC (gdB_app (zgB_r zg_h [Cond.methodLink RL 143 yL_tryPay, Cond.static yL_tryPay, Cond.initialized RL] [(23, 17), (23, 18), (2, 20)] (by decide +kernel) (by decide +kernel)) gB_L_tryPay)
set_option maxRecDepth 20000 in
theorem gL_call_L_tryMove : GoodIn vL_call (va_wsS RL 146 yL_tryMove wsL_tryMove) := gdB_inC (gdB_app (zgB_r zg_h [Cond.methodLink RL 146 yL_tryMove, Cond.static yL_tryMove, Cond.initialized RL] [(24, 2), (24, 3), (2, 20)] (by decide +kernel) (by decide +kernel)) gB_L_tryMove)
set_option maxRecDepth 20000 in
theorem gL_call_L_tryEntitle : GoodIn vL_call (va_wsS RL 149 yL_tryEntitle wsL_tryEntitle) := gdB_inC (gdB_app (zgB_r zg_h [Cond.methodLink RL 149 yL_tryEntitle, Cond.static yL_tryEntitle, Cond.initialized RL] [(24, 17), (24, 18), (2, 20)] (by decide +kernel) (by decide +kernel)) gB_L_tryEntitle)
set_option maxRecDepth 20000 in
theorem gL_call_L_tryWriteOff : GoodIn vL_call (va_wsS RL 152 yL_tryWriteOff wsL_tryWriteOff) := gdB_inC (gdB_app (zgB_r zg_h [Cond.methodLink RL 152 yL_tryWriteOff, Cond.static yL_tryWriteOff, Cond.initialized RL] [(25, 2), (25, 3), (2, 20)] (by decide +kernel) (by decide +kernel)) gB_L_tryWriteOff)
set_option maxRecDepth 20000 in
theorem gL_call_L_tryDays : GoodIn vL_call (va_wsS RL 155 yL_tryDays wsL_tryDays) := gdB_inC (gdB_app (zgB_r zg_h [Cond.methodLink RL 155 yL_tryDays, Cond.static yL_tryDays, Cond.initialized RL] [(25, 18), (25, 19), (2, 20)] (by decide +kernel) (by decide +kernel)) gB_L_tryDays)
set_option maxRecDepth 20000 in
theorem gL_call_L_trySet : GoodIn vL_call (va_wsS RL 158 yL_trySet wsL_trySet) := gdB_inC (gdB_app (zgB_r zg_h [Cond.methodLink RL 158 yL_trySet, Cond.static yL_trySet, Cond.initialized RL] [(26, 3), (26, 4), (2, 20)] (by decide +kernel) (by decide +kernel)) gB_L_trySet)
set_option maxRecDepth 20000 in
theorem gL_call_L_tryUndo : GoodIn vL_call (va_wsS RL 161 yL_tryUndo wsL_tryUndo) := gdB_inC (gdB_app (zgB_r zg_h [Cond.methodLink RL 161 yL_tryUndo, Cond.static yL_tryUndo, Cond.initialized RL] [(26, 17), (26, 18), (2, 20)] (by decide +kernel) (by decide +kernel)) gB_L_tryUndo)
set_option maxRecDepth 20000 in
theorem gL_call_L_tryRefusedOn : GoodIn vL_call (va_wsS RL 164 yL_tryRefusedOn wsL_tryRefusedOn) := gdB_inC (gdB_app (zgB_r zg_h [Cond.methodLink RL 164 yL_tryRefusedOn, Cond.static yL_tryRefusedOn, Cond.initialized RL] [(27, 5), (27, 6), (2, 20)] (by decide +kernel) (by decide +kernel)) gB_L_tryRefusedOn)
set_option maxRecDepth 20000 in
theorem gL_call_L_tryNeeds : GoodIn vL_call (va_wsS RL 167 yL_tryNeeds wsL_tryNeeds) := gdB_inC (gdB_app (zgB_r zg_h [Cond.methodLink RL 167 yL_tryNeeds, Cond.static yL_tryNeeds, Cond.initialized RL] [(27, 21), (27, 22), (2, 20)] (by decide +kernel) (by decide +kernel)) gB_L_tryNeeds)
set_option maxRecDepth 20000 in
theorem gL_call_L_tryIfEntitled : GoodIn vL_call (va_wsS RL 170 yL_tryIfEntitled wsL_tryIfEntitled) := gdB_inC (gdB_app (zgB_r zg_h [Cond.methodLink RL 170 yL_tryIfEntitled, Cond.static yL_tryIfEntitled, Cond.initialized RL] [(28, 9), (28, 10), (2, 20)] (by decide +kernel) (by decide +kernel)) gB_L_tryIfEntitled)
set_option maxRecDepth 20000 in
theorem gL_call_L_tryIfPrice : GoodIn vL_call (va_wsS RL 173 yL_tryIfPrice wsL_tryIfPrice) := gdB_inC (gdB_app (zgB_r zg_h [Cond.methodLink RL 173 yL_tryIfPrice, Cond.static yL_tryIfPrice, Cond.initialized RL] [(28, 16), (28, 17), (2, 20)] (by decide +kernel) (by decide +kernel)) gB_L_tryIfPrice)
set_option maxRecDepth 20000 in
theorem gL_call_L_tryKeep : GoodIn vL_call (va_wsS RL 176 yL_tryKeep wsL_tryKeep) := gdB_inC (gdB_app (zgB_r zg_h [Cond.methodLink RL 176 yL_tryKeep, Cond.static yL_tryKeep, Cond.initialized RL] [(29, 0), (29, 1), (2, 20)] (by decide +kernel) (by decide +kernel)) gB_L_tryKeep)
set_option maxRecDepth 20000 in
theorem gL_call_L_tryBack : GoodIn vL_call (va_wsS RL 179 yL_tryBack wsL_tryBack) := gdB_inC (gdB_app (zgB_r zg_h [Cond.methodLink RL 179 yL_tryBack, Cond.static yL_tryBack, Cond.initialized RL] [(29, 7), (29, 8), (2, 20)] (by decide +kernel) (by decide +kernel)) gB_L_tryBack)
set_option maxRecDepth 20000 in
theorem gL_refuses_L_call : GoodIn vL_refuses (va_wsS RL 184 yL_call vL_call) := gdB_inC (gdB_app (zgB_r zg_h [Cond.methodLink RL 184 yL_call, Cond.static yL_call, Cond.initialized RL] [(3, 8), (3, 9), (2, 20)] (by decide +kernel) (by decide +kernel)) gB_vL_call)
set_option maxRecDepth 20000 in
theorem gL_refuses_L_tryOrder : GoodIn vL_refuses (va_wsS RL 188 yL_tryOrder wsL_tryOrder) := gdB_inC (gdB_app (zgB_r zg_h [Cond.methodLink RL 188 yL_tryOrder, Cond.static yL_tryOrder, Cond.initialized RL] [(29, 14), (29, 15), (2, 20)] (by decide +kernel) (by decide +kernel)) gB_L_tryOrder)
set_option maxRecDepth 20000 in
theorem gL_refuses_L_tryShare : GoodIn vL_refuses (va_wsS RL 192 yL_tryShare wsL_tryShare) := gdB_inC (gdB_app (zgB_r zg_h [Cond.methodLink RL 192 yL_tryShare, Cond.static yL_tryShare, Cond.initialized RL] [(29, 23), (30, 0), (2, 20)] (by decide +kernel) (by decide +kernel)) gB_L_tryShare)
set_option maxRecDepth 20000 in
theorem gL_refuses_L_tryScript : GoodIn vL_refuses (va_wsS RL 196 yL_tryScript wsL_tryScript) := gdB_inC (gdB_app (zgB_r zg_h [Cond.methodLink RL 196 yL_tryScript, Cond.static yL_tryScript, Cond.initialized RL] [(30, 8), (30, 9), (2, 20)] (by decide +kernel) (by decide +kernel)) gB_L_tryScript)
set_option maxRecDepth 20000 in
theorem gL_refuses_L_trySimulate : GoodIn vL_refuses (va_wsS RL 204 yL_trySimulate wsL_trySimulate) := gdB_inC (gdB_app (zgB_r zg_h [Cond.methodLink RL 204 yL_trySimulate, Cond.static yL_trySimulate, Cond.initialized RL] [(31, 13), (31, 14), (2, 20)] (by decide +kernel) (by decide +kernel)) gB_L_trySimulate)
set_option maxRecDepth 20000 in
theorem gL_refuses_X5_errorPosition : GoodIn vL_refuses (wsV RL 208 RX5 yX5_errorPosition wsX5_errorPosition) := gdB_inC (gdB_app (zgB_r zg_h [Cond.methodLink RL 208 yX5_errorPosition, Cond.instanceMethod yX5_errorPosition, Cond.selects RX5 yX5_errorPosition yX5_errorPosition, Cond.initialized RX5] [(32, 6), (32, 7), (32, 8), (0, 2)] (by decide +kernel) (by decide +kernel)) gB_X5_errorPosition)
set_option maxRecDepth 20000 in
theorem gL_alike_X5_errorPosition : GoodIn vL_alike (wsV RL 208 RX5 yX5_errorPosition wsX5_errorPosition) := gdB_inC (gdB_app (zgB_r zg_h [Cond.methodLink RL 208 yX5_errorPosition, Cond.instanceMethod yX5_errorPosition, Cond.selects RX5 yX5_errorPosition yX5_errorPosition, Cond.initialized RX5] [(32, 6), (32, 7), (32, 8), (0, 2)] (by decide +kernel) (by decide +kernel)) gB_X5_errorPosition)
set_option maxRecDepth 20000 in
theorem gL_alike_L_call : GoodIn vL_alike (va_wsS RL 184 yL_call vL_call) := gdB_inC (gdB_app (zgB_r zg_h [Cond.methodLink RL 184 yL_call, Cond.static yL_call, Cond.initialized RL] [(3, 8), (3, 9), (2, 20)] (by decide +kernel) (by decide +kernel)) gB_vL_call)
set_option maxRecDepth 20000 in
theorem gL_holds_L_call : GoodIn vL_holds (va_wsS RL 184 yL_call vL_call) := gdB_inC (gdB_app (zgB_r zg_h [Cond.methodLink RL 184 yL_call, Cond.static yL_call, Cond.initialized RL] [(3, 8), (3, 9), (2, 20)] (by decide +kernel) (by decide +kernel)) gB_vL_call)
set_option maxRecDepth 20000 in
theorem gL_holds_X5_bestEntitled : GoodIn vL_holds (wsV RL 211 RX5 yX5_bestEntitled wsX5_bestEntitled) := gdB_inC (gdB_app (zgB_r zg_h [Cond.methodLink RL 211 yX5_bestEntitled, Cond.instanceMethod yX5_bestEntitled, Cond.selects RX5 yX5_bestEntitled yX5_bestEntitled, Cond.initialized RX5] [(32, 23), (33, 0), (33, 1), (0, 2)] (by decide +kernel) (by decide +kernel)) gB_X5_bestEntitled)
set_option maxRecDepth 20000 in
theorem gL_act_L_call : GoodIn vL_act (va_wsS RL 184 yL_call vL_call) := gdB_inC (gdB_app (zgB_r zg_h [Cond.methodLink RL 184 yL_call, Cond.static yL_call, Cond.initialized RL] [(3, 8), (3, 9), (2, 20)] (by decide +kernel) (by decide +kernel)) gB_vL_call)
set_option maxRecDepth 20000 in
theorem gL_act_L_tryShare : GoodIn vL_act (va_wsS RL 192 yL_tryShare wsL_tryShare) := gdB_inC (gdB_app (zgB_r zg_h [Cond.methodLink RL 192 yL_tryShare, Cond.static yL_tryShare, Cond.initialized RL] [(29, 23), (30, 0), (2, 20)] (by decide +kernel) (by decide +kernel)) gB_L_tryShare)
set_option maxRecDepth 20000 in
theorem gL_act_X5_clearText : GoodIn vL_act (wsV RL 214 RX5 yX5_clearText wsX5_clearText) := gdB_inC (gdB_app (zgB_r zg_h [Cond.methodLink RL 214 yX5_clearText, Cond.instanceMethod yX5_clearText, Cond.selects RX5 yX5_clearText yX5_clearText, Cond.initialized RX5] [(32, 13), (32, 14), (32, 15), (0, 2)] (by decide +kernel) (by decide +kernel)) gB_X5_clearText)
set_option maxRecDepth 20000 in
theorem gL_act_L_tryOrder : GoodIn vL_act (va_wsS RL 188 yL_tryOrder wsL_tryOrder) := gdB_inC (gdB_app (zgB_r zg_h [Cond.methodLink RL 188 yL_tryOrder, Cond.static yL_tryOrder, Cond.initialized RL] [(29, 14), (29, 15), (2, 20)] (by decide +kernel) (by decide +kernel)) gB_L_tryOrder)
theorem gL_law_X5_init : GoodIn lw_tbl wsX5_init := gdB_inT gB_X5_init
set_option maxRecDepth 20000 in
theorem gL_law_L_cell : GoodIn lw_tbl (va_wsS RL 218 yL_cell wsL_cell) := gdB_inT (gdB_app (zgB_r zg_h [Cond.methodLink RL 218 yL_cell, Cond.static yL_cell, Cond.initialized RL] [(2, 18), (2, 19), (2, 20)] (by decide +kernel) (by decide +kernel)) gB_L_cell)
set_option maxRecDepth 20000 in
theorem gL_law_L_refuses : GoodIn lw_tbl (va_wsS RL 222 yL_refuses vL_refuses) := gdB_inT (gdB_app (zgB_r zg_h [Cond.methodLink RL 222 yL_refuses, Cond.static yL_refuses, Cond.initialized RL] [(3, 0), (3, 1), (2, 20)] (by decide +kernel) (by decide +kernel)) gB_vL_refuses)
set_option maxRecDepth 20000 in
theorem gL_law_L_act : GoodIn lw_tbl (va_wsS RL 226 yL_act vL_act) := gdB_inT (gdB_app (zgB_r zg_h [Cond.methodLink RL 226 yL_act, Cond.static yL_act, Cond.initialized RL] [(32, 10), (32, 11), (2, 20)] (by decide +kernel) (by decide +kernel)) gB_vL_act)
set_option maxRecDepth 20000 in
theorem gL_law_L_alike : GoodIn lw_tbl (va_wsS RL 229 yL_alike vL_alike) := gdB_inT (gdB_app (zgB_r zg_h [Cond.methodLink RL 229 yL_alike, Cond.static yL_alike, Cond.initialized RL] [(32, 17), (32, 18), (2, 20)] (by decide +kernel) (by decide +kernel)) gB_vL_alike)
set_option maxRecDepth 20000 in
theorem gL_law_L_holds : GoodIn lw_tbl (va_wsS RL 233 yL_holds vL_holds) := gdB_inT (gdB_app (zgB_r zg_h [Cond.methodLink RL 233 yL_holds, Cond.static yL_holds, Cond.initialized RL] [(32, 20), (32, 21), (2, 20)] (by decide +kernel) (by decide +kernel)) gB_vL_holds)
set_option maxRecDepth 20000 in
theorem gL_law_L_trySimulate : GoodIn lw_tbl (va_wsS RL 204 yL_trySimulate wsL_trySimulate) := gdB_inT (gdB_app (zgB_r zg_h [Cond.methodLink RL 204 yL_trySimulate, Cond.static yL_trySimulate, Cond.initialized RL] [(31, 13), (31, 14), (2, 20)] (by decide +kernel) (by decide +kernel)) gB_L_trySimulate)
set_option maxRecDepth 20000 in
theorem gL_law_L_tryScript : GoodIn lw_tbl (va_wsS RL 196 yL_tryScript wsL_tryScript) := gdB_inT (gdB_app (zgB_r zg_h [Cond.methodLink RL 196 yL_tryScript, Cond.static yL_tryScript, Cond.initialized RL] [(30, 8), (30, 9), (2, 20)] (by decide +kernel) (by decide +kernel)) gB_L_tryScript)
