theorem jMt_ok_5 : ((((jMt.drop 100).take 20).zip ((jMp.drop 100).take 20)).all (fun q => jRok q.1 q.2)) = true := by decide +kernel
